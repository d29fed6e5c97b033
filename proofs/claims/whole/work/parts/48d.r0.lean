theorem v_X7_addNode (x1 x2 x3 : Int) (σ : St) (hp : pre_X7_addNode x1 x2 x3 σ) : V_X7_addNode x1 x2 x3 σ (post_X7_addNode x1 x2 x3 σ) := by
  have hp : 0 ≤ σ 80 12 ∧ σ 80 12 < 100 := hp
  have k : ∀ (τ : St) (y : Nat) (i v : Int), y ≠ 80 → τ 80 12 = σ 80 12 → up τ y i v 80 12 = σ 80 12 := fun τ y i v a b => by rw [up_n _ _ _ (Ne.symm a)]; exact b
  refine ⟨hp, fun s2 e2 => ?_⟩
  have n2 : s2 80 12 = σ 80 12 := by rw [e2]; exact k _ _ _ _ (by decide) rfl
  refine ⟨by rw [n2]; exact hp, fun s4 e4 => ?_⟩
  have n4 : s4 80 12 = σ 80 12 := by rw [e4]; exact k _ _ _ _ (by decide) n2
  refine ⟨by rw [n4]; exact hp, fun s6 e6 => ?_⟩
  have n6 : s6 80 12 = σ 80 12 := by rw [e6]; exact k _ _ _ _ (by decide) n4
  refine ⟨by rw [n6]; exact hp, fun s8 e8 => ?_⟩
  have n8 : s8 80 12 = σ 80 12 := by rw [e8]; exact k _ _ _ _ (by decide) n6
  refine ⟨by rw [n8]; exact hp, fun s10 e10 s11 e11 => ?_⟩
  have n10 : s10 80 12 = σ 80 12 := by rw [e10]; exact k _ _ _ _ (by decide) n8
  show s11 = adN σ x1 x2 x3
  rw [e11, n10, e10, n8, e8, n6, e6, n4, e4, n2, e2]
  rfl
theorem v_X7_endOf (x1 : Int) (σ : St) (hp : pre_X7_endOf x1 σ) : V_X7_endOf x1 σ (post_X7_endOf x1 σ) := by
  obtain ⟨p0, p1, p2, p3, p4, p5⟩ := hp
  refine ⟨⟨p0, p1⟩, ⟨p0, p1⟩, trivial, fun r6 e6 => ?_⟩
  have e6 : r6 = 101 * (9 * σ 86 x1 + 0) + σ 87 x1 := e6
  refine ⟨⟨by omega, by omega⟩, ?_, rfl⟩
  show σ 85 r6 = mt σ (σ 86 x1) 0 (σ 87 x1)
  rw [e6]
  rfl
theorem l_X7_numberAt (σ : St) (s0 : Int) (hW : gWF (mg (σ 81) 0)) (h0 : 0 ≤ s0) (Q : Int → St → Prop) (hQ : Q (dec (mg (σ 81) 0) s0) σ) : ∀ (n : Nat) (v p : Int), (σ 81 0 - p).toNat < n → s0 ≤ p → p ≤ σ 81 0 → RE (mg (σ 81) 0) 48 57 p = RE (mg (σ 81) 0) 48 57 s0 → v = nb (gt (mg (σ 81) 0)) s0 (p - s0).toNat → L_X7_numberAt_4 Q n v p σ := by
  obtain ⟨⟨t0, t1⟩, hT, hR⟩ := mgW hW
  intro n
  induction n with
  | zero => intro v p hn; exact absurd hn (Nat.not_lt_zero _)
  | succ n ih =>
    intro v p hn hp hl hre hv
    have vb := nb_b (gt (mg (σ 81) 0)) s0 (p - s0).toNat
    rw [← hv] at vb
    refine ⟨⟨by omega, by omega, t0, t1, by decide, by decide, fun a => ?_⟩, fun r4 e4 => ?_⟩
    · have := hT p (by omega) a
      exact ⟨by omega, by omega⟩
    · have e4 : r4 = if p < σ 81 0 ∧ 48 ≤ σ 81 (1 + p) ∧ σ 81 (1 + p) ≤ 57 then 1 else 0 := e4
      by_cases c : p < σ 81 0 ∧ 48 ≤ σ 81 (1 + p) ∧ σ 81 (1 + p) ≤ 57
      · rw [if_pos c] at e4
        have eg : gt (mg (σ 81) 0) p = σ 81 (1 + p) := m7_t (by omega) c.1
        have c2 : p < gl (mg (σ 81) 0) ∧ 48 ≤ gt (mg (σ 81) 0) p ∧ gt (mg (σ 81) 0) p ≤ 57 := by rw [eg]; exact c
        refine ⟨by rw [e4]; exact ⟨by decide, by decide⟩, fun z => absurd (e4.symm.trans z) (by decide), fun _ => ⟨⟨by omega, by omega⟩, ⟨by omega, by omega⟩, ih _ (p + 1) (by omega) (by omega) (by omega) (by rw [← RE_step c2]; exact hre) ?_⟩⟩
        obtain ⟨m, hm⟩ : ∃ m : Nat, (p - s0).toNat = m := ⟨_, rfl⟩
        rw [show (p + 1 - s0).toNat = m + 1 by omega]
        show _ = (nb (gt (mg (σ 81) 0)) s0 m * 10 + gt (mg (σ 81) 0) (s0 + m) - 48) % 1000000
        rw [show s0 + (m : Int) = p by omega, eg, hv, hm, Int.mul_comm]
      · rw [if_neg c] at e4
        have c2 : ¬ (p < gl (mg (σ 81) 0) ∧ 48 ≤ gt (mg (σ 81) 0) p ∧ gt (mg (σ 81) 0) p ≤ 57) := fun z => by
          rw [m7_t (by omega) z.1] at z
          exact c z
        refine ⟨by rw [e4]; exact ⟨by decide, by decide⟩, fun _ => ?_, fun z => absurd e4 z⟩
        rw [RE_stop c2] at hre
        rw [hv, hre]
        exact hQ
theorem v_X7_numberAt (x1 : Int) (σ : St) (hp : pre_X7_numberAt x1 σ) : V_X7_numberAt x1 σ (post_X7_numberAt x1 σ) := by
  obtain ⟨p0, p1, hW⟩ := hp
  exact ⟨_, l_X7_numberAt σ x1 hW p0 _ (show post_X7_numberAt x1 σ _ σ from ⟨rfl, rfl⟩) ((σ 81 0 - x1).toNat + 1) 0 x1 (by omega) (by omega) p1 rfl (by rw [show (x1 - x1).toNat = 0 by omega]; rfl)⟩
theorem MC_rows {s σ : St} (h : MC σ) (h81 : s 81 = σ 81) (h85 : s 85 = σ 85) (h60 : s 60 = σ 60) : MC s := by
  have e1 : mt s = mt σ := by funext r i p; unfold mt; rw [h85]
  have e2 : ct s = ct σ := ct_row h60
  unfold MC M8
  rw [h81, h85, e1, e2]
  exact h
theorem MC_first {σ : St} (h : MC σ) {p : Int} (h0 : 0 ≤ p) (hl : p ≤ σ 81 0) : first (mt σ) p = first (ct σ) p := by
  obtain ⟨h1, h2, h3, h4⟩ := h
  obtain ⟨hL, ht, hR⟩ := h1
  exact first_congr (fun r a b => h4 p h0 hl r a b 0 (by decide) (hR r a b).1.1)
theorem MC_eE {σ : St} (h : MC σ) {p e : Int} (h0 : 0 ≤ p) (hl : p ≤ σ 81 0) : eE (mg (σ 81) 0) (mt σ) e p = eE (mg (σ 81) 0) (ct σ) e p := by
  obtain ⟨h1, h2, h3, h4⟩ := h
  obtain ⟨hL, ht, hR⟩ := h1
  exact eE_congr (fun r a b => h4 p h0 hl r a b 0 (by decide) (hR r a b).1.1)
theorem MW_keep {g : Gr} {T : Tb} {σ0 σ : St} {f r : Int} {x : Int × Int} {n : Nat} (h : MW g T σ0 f r x n σ) : σ 81 = σ0 81 ∧ σ 85 = σ0 85 ∧ σ 60 = σ0 60 ∧ (∀ q, q < σ0 80 12 → σ 86 q = σ0 86 q ∧ σ 87 q = σ0 87 q ∧ σ 88 q = σ0 88 q) ∧ σ 80 12 = σ0 80 12 + csum g T r x n := by
  obtain ⟨h1, h2, h3, h4, h5, h6⟩ := h
  refine ⟨h1 81 (by decide) (by decide) (by decide) (by decide) (by decide) (by decide), h1 85 (by decide) (by decide) (by decide) (by decide) (by decide) (by decide), h1 60 (by decide) (by decide) (by decide) (by decide) (by decide) (by decide), fun q a => ?_, by rw [h2, ui_s]⟩
  rw [h3, h4, h5, xr_low _ _ _ _ _ _ _ a, xr_low _ _ _ _ _ _ _ a, xr_low _ _ _ _ _ _ _ a]
  exact ⟨rfl, rfl, rfl⟩
theorem l_X7_followWater (σ : St) (x1 x2 x3 : Int) (hp : pre_X7_followWater x1 x2 x3 σ) (Q : Int → St → Prop) (hQ : ∀ r s, post_X7_followWater x1 x2 x3 σ r s → Q r s) : ∀ (n : Nat) (p : Int) (s : St), (σ 81 0 - p).toNat < n → x3 ≤ p → (∃ m, MW (mg (σ 81) 0) (ct σ) σ x1 (σ 86 x1) (x2, x3) m s ∧ s 90 = xr (mg (σ 81) 0) (ct σ) (σ 86 x1) (x2, x3) (σ 90) (σ 80 12) (fun _ => -1) m ∧ tr (mg (σ 81) 0) (ct σ) (σ 86 x1) (x2, x3) m = (x2, p)) → L_X7_followWater_3 Q x1 x2 n p s := by
  obtain ⟨p0, p1, pN, r0, r1, p2, p3, p4, p5, p6, p7, hMC, room⟩ := id hp
  obtain ⟨hW, hM, hG, hA⟩ := id hMC
  obtain ⟨⟨t0, t1⟩, hT, hR⟩ := mgW hW
  have gz : gs (mg (σ 81) 0) (σ 86 x1) = σ 81 (101 + σ 86 x1) := m7_s r0 r1
  have zz := (hR _ r0 r1).1
  intro n
  induction n with
  | zero => intro p s hn; exact absurd hn (Nat.not_lt_zero _)
  | succ n ih =>
    intro p s hn hpk hm
    obtain ⟨m, hC, h90, ht⟩ := hm
    obtain ⟨k81, k85, k60, klow, k12⟩ := MW_keep hC
    have cts : ct s = ct σ := ct_row k60
    have mts : mt s = mt σ := by funext r i p; unfold mt; rw [k85]
    have tk := tg_ok hW hG (x := (x2, x3)) ⟨r0, r1⟩ ⟨p2, by dsimp only; omega⟩ ⟨by dsimp only; omega, by rw [mg_L]; exact p6⟩ rfl p7 m
    rw [ht] at tk
    dsimp only at tk
    rw [mg_L] at tk
    have ok := nx_ok hW hG (x := (x2, p)) ⟨r0, r1⟩ ⟨p2, by dsimp only; omega⟩ ⟨by dsimp only; omega, by rw [mg_L]; dsimp only; omega⟩ tk.2.2 p7
    obtain ⟨b1, b2, b3, b4, b5, b6, b7, b8⟩ := ok.2 p3
    have ni : ¬ gs (mg (σ 81) 0) (σ 86 x1) ≤ x2 := by omega
    have s86 : s 86 x1 = σ 86 x1 := (klow x1 pN).1
    refine ⟨⟨p0, p1⟩, trivial, fun r5 e5 => ?_⟩
    have e5 : r5 = 101 * (9 * σ 86 x1 + (x2 + 1)) + p := by rw [e5, s86]; rfl
    have e85 : s 85 r5 = ct σ (σ 86 x1) (x2 + 1) p := by
      rw [k85, e5]
      exact hA p (by omega) (by omega) _ r0 r1 (x2 + 1) (by omega) (by omega)
    have m85 := hM r5
    rw [← k85] at m85
    refine ⟨⟨by omega, by omega⟩, ⟨by omega, by omega⟩, fun a => ?_, fun a => ⟨⟨by omega, by omega, by unfold M8; rw [k85]; exact hM⟩, fun r12 e12 => ?_⟩⟩
    · rw [e85] at a
      have ec : emc (mg (σ 81) 0) (ct σ) (σ 86 x1) (x2, p) = -1 := by
        unfold emc
        dsimp only
        rw [if_neg ni, if_pos p4, if_pos a]
      have ew : emw (mg (σ 81) 0) (ct σ) (σ 86 x1) (x2, p) = 0 := by
        unfold emw
        dsimp only
        rw [if_neg ni, if_pos p4, if_pos a]
      have en : nx (mg (σ 81) 0) (ct σ) (σ 86 x1) (x2, p) = (x2 + 1, p) := by
        unfold nx
        dsimp only
        rw [if_neg ni, if_pos p4, if_pos a]
      refine hQ _ _ ⟨m + 1, MW_none hC (by rw [ht]; exact ec) (by rw [ht]; exact ew), ?_, ?_⟩
      · rw [h90]
        exact (if_pos (by rw [ht]; exact ec)).symm
      · show nx _ _ _ (tr _ _ _ _ m) = _
        rw [ht, en]
    · rw [e85] at a
      have a' : ¬ ct σ (σ 86 x1) (x2 + 1) p ≠ -1 := fun z => z a
      have e12 : r12 = first (ct σ) p := by
        rw [e12]
        show first (mt s) p = _
        rw [mts]
        exact MC_first hMC (by omega) (by omega)
      have fr := first_rng (ct σ) p
      rw [← e12] at fr
      refine ⟨⟨by omega, by omega⟩, fun b => ⟨⟨p0, p1⟩, ⟨p0, p1⟩, fun s17 e17 => ?_⟩, fun b => ?_⟩
      · have fb : ¬ first (ct σ) p ≠ -1 := by rw [← e12]; exact fun z => z b
        have ec : emc (mg (σ 81) 0) (ct σ) (σ 86 x1) (x2, p) = -1 := by
          unfold emc
          dsimp only
          rw [if_neg ni, if_pos p4, if_neg a', ← e12, b]
        have ew : emw (mg (σ 81) 0) (ct σ) (σ 86 x1) (x2, p) = 1 := by
          unfold emw
          dsimp only
          rw [if_neg ni, if_pos p4, if_neg a', if_neg fb]
        have en : nx (mg (σ 81) 0) (ct σ) (σ 86 x1) (x2, p) = (x2, p + 1) := by
          unfold nx
          dsimp only
          rw [if_neg ni, if_pos p4, if_neg a', if_neg fb]
        rw [en] at b2
        dsimp only at b2
        rw [mg_L] at b2
        refine ih (p + 1) s17 (by omega) (by omega) ⟨m + 1, ?_, ?_, ?_⟩
        · rw [e17]
          exact MW_water hC (by rw [ht]; exact ec) (by rw [ht]; exact ew)
        · rw [e17, up_n _ _ _ (by decide), h90]
          exact (if_pos (by rw [ht]; exact ec)).symm
        · show nx _ _ _ (tr _ _ _ _ m) = _
          rw [ht, en]
      · have fb : first (ct σ) p ≠ -1 := by rw [← e12]; exact b
        have ec : emc (mg (σ 81) 0) (ct σ) (σ 86 x1) (x2, p) = r12 := by
          unfold emc
          dsimp only
          rw [if_neg ni, if_pos p4, if_neg a', e12]
        have ew : emw (mg (σ 81) 0) (ct σ) (σ 86 x1) (x2, p) = 0 := by
          unfold emw
          dsimp only
          rw [if_neg ni, if_pos p4, if_neg a', if_pos fb]
        have en : nx (mg (σ 81) 0) (ct σ) (σ 86 x1) (x2, p) = (x2, ct σ r12 0 p) := by
          unfold nx
          dsimp only
          rw [if_neg ni, if_pos p4, if_neg a', if_pos fb, e12]
        rw [ec] at b7
        obtain ⟨d1, d2, d3, d4⟩ := b7 b
        rw [en] at d4 b2
        dsimp only at d4 b2
        rw [mg_L] at b2
        have rm := room (m + 1)
        have cs : csum (mg (σ 81) 0) (ct σ) (σ 86 x1) (x2, x3) (m + 1) = csum (mg (σ 81) 0) (ct σ) (σ 86 x1) (x2, x3) m + 1 := by
          show csum _ _ _ _ m + (if emc _ _ _ (tr _ _ _ _ m) = -1 then 0 else 1) = _
          rw [ht, ec, if_neg b]
        have c0 := (csum_mono (mg (σ 81) 0) (ct σ) (σ 86 x1) (x2, x3) m).1
        refine ⟨⟨by omega, by omega⟩, fun s19 e19 => ⟨trivial, fun r24 e24 => ?_⟩⟩
        have e19 : s19 = adN s r12 p x1 := e19
        have e24 : r24 = 101 * (9 * r12 + 0) + p := e24
        obtain ⟨w1, w2, w3, w4, w5, w6, w7⟩ := adN_r s r12 p x1
        have v85 : s19 85 r24 = ct σ r12 0 p := by
          rw [e19, w1 85 (by decide) (by decide) (by decide) (by decide) (by decide) (by decide), k85, e24]
          exact hA p (by omega) (by omega) _ d1 d2 0 (by decide) (by rw [m7_s d1 d2]; exact (hR r12 d1 d2).1.1)
        refine ⟨⟨by omega, by omega⟩, ?_⟩
        rw [v85]
        refine ih (ct σ r12 0 p) s19 (by omega) (by omega) ⟨m + 1, ?_, ?_, ?_⟩
        · have h := MW_child pN hC (by rw [ht]; exact ew) (by rw [ht, ec]; exact b)
          rw [ht, ec] at h
          rw [e19]
          exact h
        · rw [e19, w7, h90, k12]
          exact (if_neg (by rw [ht, ec]; exact b)).symm
        · show nx _ _ _ (tr _ _ _ _ m) = _
          rw [ht, en]
theorem v_X7_followWater (x1 x2 x3 : Int) (σ : St) (hp : pre_X7_followWater x1 x2 x3 σ) : V_X7_followWater x1 x2 x3 σ (post_X7_followWater x1 x2 x3 σ) :=
  ⟨_, l_X7_followWater σ x1 x2 x3 hp _ (fun r s h => h) ((σ 81 0 - x3).toNat + 1) x3 σ (by omega) (by omega) ⟨0, MW_0 _ _ _ _ _ _, rfl, rfl⟩⟩
