/-- the number's row of the reference, with the elements below i seen -/
def nM90 (g : Gr) (T : Tb) (σ : St) (f r s0 i : Int) (m : Nat) (s : St) : Prop := (s 90 = ui (xr g T r (0, s0) (σ 90) (σ 80 12) (fun _ => -1) m) f (-1) ∧ ∀ i', 0 ≤ i' → i' < i → ge g r i' ≠ 35) ∨ (∃ k, (tr g T r (0, s0) k).1 < i ∧ ge g r (tr g T r (0, s0) k).1 = 35 ∧ (∀ i', 0 ≤ i' → i' < (tr g T r (0, s0) k).1 → ge g r i' ≠ 35) ∧ s 90 = ui (xr g T r (0, s0) (σ 90) (σ 80 12) (fun _ => -1) m) f (dec g (tr g T r (0, s0) k).2))
theorem xr_ui (g : Gr) (T : Tb) (r : Int) (x : Int × Int) (a : Int → Int) (N : Int) (val : Int × Int → Int) {f : Int} (v : Int) (hf : f < N) : ∀ n, xr g T r x (ui a f v) N val n = ui (xr g T r x a N val n) f v := by
  intro n
  induction n with
  | zero => rfl
  | succ n ih =>
    have c0 := (csum_mono g T r x n).1
    show (if emc g T r (tr g T r x n) = -1 then _ else ui _ _ _) = ui (if emc g T r (tr g T r x n) = -1 then _ else ui _ _ _) f v
    split
    · exact ih
    · rw [ih, ui_comm _ _ _ (by omega)]
theorem l_X7_follow (σ : St) (x1 : Int) (hp : pre_X7_follow x1 σ) (Q : St → Prop) (hQ : ∀ s, post_X7_follow x1 σ s → Q s) : ∀ (n : Nat) (p i : Int) (s : St), (9 - i).toNat < n → 0 ≤ i → (∃ m, MW (mg (σ 81) 0) (ct σ) σ x1 (σ 86 x1) (0, σ 87 x1) m s ∧ tr (mg (σ 81) 0) (ct σ) (σ 86 x1) (0, σ 87 x1) m = (i, p) ∧ nM90 (mg (σ 81) 0) (ct σ) σ x1 (σ 86 x1) (σ 87 x1) i m s) → L_X7_follow_17 Q x1 (σ 86 x1) n p i s := by
  obtain ⟨p0, p1, pN, r0, r1, s0, sL, hne, h90, hMC, room⟩ := id hp
  obtain ⟨hW, hM, hG, hA⟩ := id hMC
  obtain ⟨⟨t0, t1⟩, hT, hR⟩ := mgW hW
  have gz : gs (mg (σ 81) 0) (σ 86 x1) = σ 81 (101 + σ 86 x1) := m7_s r0 r1
  obtain ⟨⟨z0, z1⟩, zs, ze, zf⟩ := hR _ r0 r1
  have hs : 0 ≤ σ 87 x1 ∧ σ 87 x1 ≤ gl (mg (σ 81) 0) := ⟨s0, sL⟩
  intro n
  induction n with
  | zero => intro p k s hn; exact absurd hn (Nat.not_lt_zero _)
  | succ n ih =>
    intro p i s hn hi hm
    obtain ⟨m, hC, ht, h5⟩ := hm
    obtain ⟨k81, k85, k60, klow, k12⟩ := MW_keep hC
    have cts : ct s = ct σ := ct_row k60
    have mcs : MC s := MC_rows hMC k81 k85 k60
    have tk := tr_ok hW hG ⟨r0, r1⟩ hs rfl hne m
    rw [ht] at tk
    dsimp only at tk
    rw [mg_L] at tk
    have csz : s 81 (101 + σ 86 x1) = σ 81 (101 + σ 86 x1) := by rw [k81]
    refine ⟨⟨by omega, by omega⟩, ⟨by omega, by omega⟩, by rw [csz]; exact ⟨by omega, by omega⟩, fun c => hQ _ ?_, fun c => ⟨⟨r0, r1, hi, by rw [csz] at c; omega⟩, fun r10 e10 => ?_⟩⟩
    · rw [csz] at c
      rcases h5 with ⟨h1, h2⟩ | ⟨k, h1, h2, h3, h4⟩
      · exact ⟨m, -1, hC, by rw [ht]; dsimp only; omega, Or.inl ⟨rfl, fun i' a b => h2 i' a (by omega)⟩, h1⟩
      · exact ⟨m, _, hC, by rw [ht]; dsimp only; omega, Or.inr ⟨k, by omega, h2, h3, rfl⟩, h4⟩
    · rw [csz] at c
      have il : i < gs (mg (σ 81) 0) (σ 86 x1) := by omega
      have e10 : r10 = ge (mg (σ 81) 0) (σ 86 x1) i := by
        rw [e10]
        show s 81 (107 + 8 * σ 86 x1 + i) = _
        rw [k81]
        exact (m7_e r0 r1 hi (by omega)).symm
      have eb := ze i hi (by omega)
      rw [← show ge (mg (σ 81) 0) (σ 86 x1) i = σ 81 (107 + 8 * σ 86 x1 + i) from m7_e r0 r1 hi (by omega), ← e10] at eb
      have ok := nx_ok hW hG (x := (i, p)) ⟨r0, r1⟩ ⟨hi, by dsimp only; omega⟩ ⟨by dsimp only; omega, by rw [mg_L]; dsimp only; omega⟩ tk.2.2.1 hne
      obtain ⟨b1, b2, b3, b4, b5, b6, b7, b8⟩ := ok.2 il
      rw [mg_L] at b2
      have ni : ¬ gs (mg (σ 81) 0) (σ 86 x1) ≤ i := by omega
      refine ⟨⟨by omega, by omega⟩, fun w => ⟨⟨by omega, by omega⟩, fun r16 e16 => ?_⟩, fun w => ?_⟩
      · rw [e10] at w
        have e16 : r16 = if 65 ≤ r10 ∧ r10 ≤ 70 then 1 else 0 := e16
        have en : nx (mg (σ 81) 0) (ct σ) (σ 86 x1) (i, p) = (i + 1, eE (mg (σ 81) 0) (ct σ) r10 p) := by
          unfold nx
          dsimp only
          rw [if_neg ni, if_neg w, e10]
        have ew : emw (mg (σ 81) 0) (ct σ) (σ 86 x1) (i, p) = 0 := by
          unfold emw
          dsimp only
          rw [if_neg ni, if_neg w]
        have ec : emc (mg (σ 81) 0) (ct σ) (σ 86 x1) (i, p) = if 65 ≤ r10 ∧ r10 ≤ 70 then r10 - 65 else -1 := by
          unfold emc
          dsimp only
          rw [if_neg ni, if_neg w, e10]
        rw [en] at b2 b3 b4 b7
        dsimp only at b2 b3 b4 b7
        -- the element's end, in any state with these rows
        have eend : ∀ s' : St, s' 81 = σ 81 → s' 85 = σ 85 → (pre_X7_elementEnd r10 p s' ∧ ∀ r, r = ans_X7_elementEnd r10 p s' → r = eE (mg (σ 81) 0) (ct σ) r10 p) := fun s' a1 a2 => by
          refine ⟨⟨eb.1, eb.2, by omega, by rw [a1]; omega, by rw [a1]; exact hW⟩, fun r er => ?_⟩
          rw [er]
          show eE (mg (s' 81) 0) (mt s') r10 p = _
          have e1 : mt s' = mt σ := by funext r i p; unfold mt; rw [a2]
          rw [a1, e1]
          exact MC_eE hMC (by omega) (by omega)
        have nxt : ∀ (s' : St), MW (mg (σ 81) 0) (ct σ) σ x1 (σ 86 x1) (0, σ 87 x1) (m + 1) s' → nM90 (mg (σ 81) 0) (ct σ) σ x1 (σ 86 x1) (σ 87 x1) (i + 1) (m + 1) s' → (pre_X7_elementEnd r10 p s' ∧ ∀ r, r = ans_X7_elementEnd r10 p s' → L_X7_follow_17 Q x1 (σ 86 x1) n r (i + 1) s') := fun s' hC' hN' => by
          obtain ⟨a81, a85, -, -, -⟩ := MW_keep hC'
          obtain ⟨g1, g2⟩ := eend s' a81 a85
          refine ⟨g1, fun r er => ih r (i + 1) s' (by omega) (by omega) ⟨m + 1, hC', ?_, hN'⟩⟩
          show nx _ _ _ (tr _ _ _ _ m) = _
          rw [ht, en, g2 r er]
        -- the number's row behind the step
        have xs : xr (mg (σ 81) 0) (ct σ) (σ 86 x1) (0, σ 87 x1) (σ 90) (σ 80 12) (fun _ => -1) (m + 1) = if emc (mg (σ 81) 0) (ct σ) (σ 86 x1) (i, p) = -1 then xr (mg (σ 81) 0) (ct σ) (σ 86 x1) (0, σ 87 x1) (σ 90) (σ 80 12) (fun _ => -1) m else ui (xr (mg (σ 81) 0) (ct σ) (σ 86 x1) (0, σ 87 x1) (σ 90) (σ 80 12) (fun _ => -1) m) (s 80 12) (-1) := by
          rw [k12, ← ht]
          rfl
        have c0 := (csum_mono (mg (σ 81) 0) (ct σ) (σ 86 x1) (0, σ 87 x1) m).1
        have bB : ∀ (s' : St), MW (mg (σ 81) 0) (ct σ) σ x1 (σ 86 x1) (0, σ 87 x1) (m + 1) s' → r10 ≠ 35 → (s' 90 = if emc (mg (σ 81) 0) (ct σ) (σ 86 x1) (i, p) = -1 then s 90 else ui (s 90) (s 80 12) (-1)) → nM90 (mg (σ 81) 0) (ct σ) σ x1 (σ 86 x1) (σ 87 x1) (i + 1) (m + 1) s' := fun s' hC' hd h9 => by
          have hgn : ge (mg (σ 81) 0) (σ 86 x1) i ≠ 35 := by rw [← e10]; exact hd
          have key : ∀ v : Int, s 90 = ui (xr (mg (σ 81) 0) (ct σ) (σ 86 x1) (0, σ 87 x1) (σ 90) (σ 80 12) (fun _ => -1) m) x1 v → s' 90 = ui (xr (mg (σ 81) 0) (ct σ) (σ 86 x1) (0, σ 87 x1) (σ 90) (σ 80 12) (fun _ => -1) (m + 1)) x1 v := fun v hv => by
            rw [h9, xs, hv]
            split
            · rfl
            · rw [ui_comm _ _ _ (by omega)]
          rcases h5 with ⟨h1, h2⟩ | ⟨k, h1, h2, h3, h4⟩
          · refine Or.inl ⟨key _ h1, fun i' a b => ?_⟩
            by_cases z : i' = i
            · subst z; exact hgn
            · exact h2 i' a (by omega)
          · exact Or.inr ⟨k, by omega, h2, h3, key _ h4⟩
        refine ⟨by rw [e16]; split <;> exact ⟨by decide, by decide⟩, fun a => ⟨fun d => ?_, fun d => ⟨⟨p0, p1⟩, ?_, fun e => ?_, fun e => ?_⟩⟩, fun a => ?_⟩
        · have nr : ¬ (65 ≤ r10 ∧ r10 ≤ 70) := fun z => by
            rw [if_pos z] at e16
            omega
          rw [if_neg nr] at ec
          have hC' := MW_none hC (by rw [ht]; exact ec) (by rw [ht]; exact ew)
          exact nxt s hC' (bB s hC' d (by rw [if_pos ec]))
        · rcases h5 with ⟨h1, h2⟩ | ⟨k, h1, h2, h3, h4⟩
          · rw [h1, ui_s]; exact ⟨by decide, by decide⟩
          · have := dec_b (mg (σ 81) 0) (tr (mg (σ 81) 0) (ct σ) (σ 86 x1) (0, σ 87 x1) k).2
            rw [h4, ui_s]; exact ⟨by omega, by omega⟩
        · have nr : ¬ (65 ≤ r10 ∧ r10 ≤ 70) := by omega
          rw [if_neg nr] at ec
          have hC' := MW_none hC (by rw [ht]; exact ec) (by rw [ht]; exact ew)
          refine nxt s hC' ?_
          rcases h5 with ⟨h1, h2⟩ | ⟨k, h1, h2, h3, h4⟩
          · rw [h1, ui_s] at e
            exact absurd rfl e
          · exact Or.inr ⟨k, by omega, h2, h3, by rw [xs, if_pos ec]; exact h4⟩
        · have nr : ¬ (65 ≤ r10 ∧ r10 ≤ 70) := by omega
          rw [if_neg nr] at ec
          have hC' := MW_none hC (by rw [ht]; exact ec) (by rw [ht]; exact ew)
          rcases h5 with ⟨h1, h2⟩ | ⟨k, h1, h2, h3, h4⟩
          · refine ⟨⟨by omega, by rw [k81]; omega, by rw [k81]; exact hW⟩, fun r34 e34 => ⟨⟨p0, p1⟩, fun s36 e36 => ?_⟩⟩
            have e34 : r34 = dec (mg (σ 81) 0) p := by rw [e34]; show dec (mg (s 81) 0) p = _; rw [k81]
            have hC2 : MW (mg (σ 81) 0) (ct σ) σ x1 (σ 86 x1) (0, σ 87 x1) (m + 1) s36 := by
              obtain ⟨q1, q2, q3, q4, q5, q6⟩ := hC'
              rw [e36]
              unfold MW
              rw [up_n (q := 80) _ _ _ (by decide), up_n (q := 86) _ _ _ (by decide), up_n (q := 87) _ _ _ (by decide), up_n (q := 88) _ _ _ (by decide), up_n (q := 89) _ _ _ (by decide)]
              exact ⟨fun q a b c d e i => by rw [up_n _ _ _ i]; exact q1 q a b c d e i, q2, q3, q4, q5, q6⟩
            refine nxt s36 hC2 (Or.inr ⟨m, by rw [ht]; dsimp only; omega, by rw [ht, ← e10]; exact d, by rw [ht]; exact h2, ?_⟩)
            rw [e36, up_s, h1, ui_ui, xs, if_pos ec, ht, e34]
          · have db := dec_b (mg (σ 81) 0) (tr (mg (σ 81) 0) (ct σ) (σ 86 x1) (0, σ 87 x1) k).2
            rw [h4, ui_s] at e
            omega
        · have yr : 65 ≤ r10 ∧ r10 ≤ 70 := by
            by_cases z : 65 ≤ r10 ∧ r10 ≤ 70
            · exact z
            · rw [if_neg z] at e16
              exact absurd e16 a
          rw [if_pos yr] at ec
          have en1 : emc (mg (σ 81) 0) (ct σ) (σ 86 x1) (i, p) ≠ -1 := by rw [ec]; omega
          have rm := room (m + 1)
          have cs : csum (mg (σ 81) 0) (ct σ) (σ 86 x1) (0, σ 87 x1) (m + 1) = csum (mg (σ 81) 0) (ct σ) (σ 86 x1) (0, σ 87 x1) m + 1 := by
            show csum _ _ _ _ m + (if emc _ _ _ (tr _ _ _ _ m) = -1 then 0 else 1) = _
            rw [ht, if_neg en1]
          refine ⟨⟨by omega, by omega⟩, fun s42 e42 => ?_⟩
          have e42 : s42 = adN s (r10 - 65) p x1 := e42
          have hC' := MW_child pN hC (by rw [ht]; exact ew) (by rw [ht]; exact en1)
          rw [ht, ec, ← e42] at hC'
          obtain ⟨w1, w2, w3, w4, w5, w6, w7⟩ := adN_r s (r10 - 65) p x1
          refine ⟨fun d => nxt s42 hC' (bB s42 hC' d (by rw [if_neg en1, e42, w7])), fun d => absurd yr (by omega)⟩
      · have w' : ge (mg (σ 81) 0) (σ 86 x1) i = 126 := by rw [← e10]; exact w
        have l12 := klow x1 pN
        have c0 := (csum_mono (mg (σ 81) 0) (ct σ) (σ 86 x1) (0, σ 87 x1) m).1
        refine ⟨⟨p0, p1, by omega, by rw [l12.1]; exact r0, by rw [l12.1]; exact r1, hi, by rw [l12.1, k81]; exact il, by rw [l12.1, k81]; exact w', by omega, by rw [k81]; omega, by rw [l12.1, cts, tk.2.2.1]; exact hne, mcs, fun k => ?_⟩, fun r66 s64 hpost => ?_⟩
        · have := room (m + k)
          rw [csum_add, ht] at this
          rw [l12.1, k81, cts, k12]
          omega
        · obtain ⟨m2, gC, g90, gt2⟩ := hpost
          rw [l12.1, k81, cts] at gC gt2 g90
          have hC2 := MW_app pN hC (by rw [ht]; exact gC)
          have ht2 : tr (mg (σ 81) 0) (ct σ) (σ 86 x1) (0, σ 87 x1) (m + m2) = (i + 1, r66) := by rw [tr_add, ht]; exact gt2
          refine ih r66 (i + 1) s64 (by omega) (by omega) ⟨m + m2, hC2, ht2, ?_⟩
          have hgn : ge (mg (σ 81) 0) (σ 86 x1) i ≠ 35 := by rw [w']; decide
          have key : ∀ v : Int, s 90 = ui (xr (mg (σ 81) 0) (ct σ) (σ 86 x1) (0, σ 87 x1) (σ 90) (σ 80 12) (fun _ => -1) m) x1 v → s64 90 = ui (xr (mg (σ 81) 0) (ct σ) (σ 86 x1) (0, σ 87 x1) (σ 90) (σ 80 12) (fun _ => -1) (m + m2)) x1 v := fun v hv => by
            rw [g90, hv, k12, xr_ui _ _ _ _ _ _ _ _ (by omega), xr_add, ht]
          rcases h5 with ⟨h1, h2⟩ | ⟨k, h1, h2, h3, h4⟩
          · refine Or.inl ⟨key _ h1, fun i' a b => ?_⟩
            by_cases z : i' = i
            · subst z; exact hgn
            · exact h2 i' a (by omega)
          · exact Or.inr ⟨k, by omega, h2, h3, key _ h4⟩
theorem v_X7_follow (x1 : Int) (σ : St) (hp : pre_X7_follow x1 σ) : V_X7_follow x1 σ (post_X7_follow x1 σ) := by
  obtain ⟨p0, p1, pN, r0, r1, s0, sL, hne, h90, hMC, room⟩ := id hp
  exact ⟨⟨p0, p1⟩, ⟨p0, p1⟩, 10, l_X7_follow σ x1 hp _ (fun s h => h) 10 _ 0 σ (by decide) (by decide) ⟨0, MW_0 _ _ _ _ _ _, rfl, Or.inl ⟨by show σ 90 = ui (σ 90) x1 (-1); rw [← h90, ui_id], fun i' a b => absurd a (by omega)⟩⟩⟩
