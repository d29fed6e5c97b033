theorem RE_all (g : Gr) (lo hi : Int) : ∀ (n : Nat) (p : Int), n = (gl g - p).toNat → ∀ x, p ≤ x → x < RE g lo hi p → x < gl g ∧ lo ≤ gt g x ∧ gt g x ≤ hi := by
  intro n
  induction n with
  | zero =>
    intro p hp x h0 h1
    rw [RE_stop (by omega)] at h1
    omega
  | succ n ih =>
    intro p hp x h0 h1
    by_cases h : p < gl g ∧ lo ≤ gt g p ∧ gt g p ≤ hi
    · by_cases z : x = p
      · subst z
        exact h
      · rw [RE_step h] at h1
        exact ih (p + 1) (by omega) x (by omega) h1
    · rw [RE_stop h] at h1
      omega
theorem nb_congr {f f' : Int → Int} {s : Int} : ∀ (n : Nat), (∀ x, s ≤ x → x < s + n → f' x = f x) → nb f' s n = nb f s n := by
  intro n
  induction n with
  | zero => intro _; rfl
  | succ n ih =>
    intro h
    show (nb f' s n * 10 + f' (s + n) - 48) % 1000000 = (nb f s n * 10 + f (s + n) - 48) % 1000000
    rw [ih (fun x a b => h x a (by omega)), h (s + n) (by omega) (by omega)]
theorem dec_b (g : Gr) (p : Int) : 0 ≤ dec g p ∧ dec g p < 1000000 := nb_b _ _ _
/-- the number's row, with the elements below i seen -/
def nI75 (g : Gr) (T : Tb) (σ : St) (j r s0 i : Int) (s : St) : Prop := (s 75 = ui (σ 75) j (-1) ∧ ∀ i', 0 ≤ i' → i' < i → ge g r i' ≠ 35) ∨ (∃ k, (tr g T r (0, s0) k).1 < i ∧ ge g r (tr g T r (0, s0) k).1 = 35 ∧ (∀ i', 0 ≤ i' → i' < (tr g T r (0, s0) k).1 → ge g r i' ≠ 35) ∧ s 75 = ui (σ 75) j (dec g (tr g T r (0, s0) k).2))
theorem nI75_next {g : Gr} {T : Tb} {σ : St} {j r s0 i : Int} {s : St} (h : nI75 g T σ j r s0 i s) (he : ge g r i ≠ 35) : nI75 g T σ j r s0 (i + 1) s := by
  rcases h with ⟨h1, h2⟩ | ⟨k, h1, h2, h3, h4⟩
  · refine Or.inl ⟨h1, fun i' a b => ?_⟩
    by_cases z : i' = i
    · subst z; exact he
    · exact h2 i' a (by omega)
  · exact Or.inr ⟨k, by omega, h2, h3, h4⟩
theorem l_X3_walkPattern (σ : St) (x1 : Int) (hp : pre_X3_walkPattern x1 σ) (Q : St → Prop) (hQ : ∀ s, post_X3_walkPattern x1 σ s → Q s) : ∀ (n : Nat) (p i : Int) (s : St), (9 - i).toNat < n → 0 ≤ i → (∃ m, CW (cg σ 1) (ct σ) σ x1 (σ 63 x1) (0, σ 65 x1) m s ∧ tr (cg σ 1) (ct σ) (σ 63 x1) (0, σ 65 x1) m = (i, p)) → nI75 (cg σ 1) (ct σ) σ x1 (σ 63 x1) (σ 65 x1) i s → L_X3_walkPattern_31 Q x1 (σ 63 x1) (σ 5 (σ 63 x1)) n p i s := by
  obtain ⟨p0, p1, r0, r1, s0, sL, hne, h75, hM, hW, hG, hF⟩ := id hp
  obtain ⟨⟨t0, t1⟩, hT, hR⟩ := cgW hW
  have gz : gs (cg σ 1) (σ 63 x1) = σ 5 (σ 63 x1) := cg_s r0 r1
  obtain ⟨⟨z0, z1⟩, zs, ze, zf⟩ := hR _ r0 r1
  have hs : 0 ≤ σ 65 x1 ∧ σ 65 x1 ≤ gl (cg σ 1) := ⟨s0, sL⟩
  intro n
  induction n with
  | zero => intro p k s hn; exact absurd hn (Nat.not_lt_zero _)
  | succ n ih =>
    intro p i s hn hi hm h5
    obtain ⟨m, hC, ht⟩ := hm
    obtain ⟨k1, k3, k5, k7, k9, k54, k56, k58, k60, k61, k63, k65⟩ := CW_keep hC
    have cts : ct s = ct σ := ct_row k60
    have cgs : cg s 1 = cg σ 1 := cg_rows k1 k3 k5 k7 k9
    have tk := tr_ok hW hG ⟨r0, r1⟩ hs rfl hne m
    rw [ht] at tk
    dsimp only at tk
    rw [cg_L] at tk
    refine ⟨⟨by omega, by omega⟩, ⟨by omega, by omega⟩, fun c => hQ _ ⟨⟨m, by rw [ht]; dsimp only; omega, hC⟩, ?_⟩, fun c => ⟨⟨r0, r1, hi, by omega⟩, fun r19 e19 => ?_⟩⟩
    · have ei : i = gs (cg σ 1) (σ 63 x1) := by omega
      rcases h5 with ⟨h1, h2⟩ | ⟨k, h1, h2, h3, h4⟩
      · exact ⟨-1, Or.inl ⟨rfl, fun i' a b => h2 i' a (by omega)⟩, h1⟩
      · exact ⟨_, Or.inr ⟨k, by omega, h2, h3, rfl⟩, h4⟩
    · have il : i < gs (cg σ 1) (σ 63 x1) := by omega
      have e19 : r19 = ge (cg σ 1) (σ 63 x1) i := by
        rw [e19]
        show s 7 (σ 63 x1 * 8 + i) = _
        rw [k7]
        exact (cg_e r0 r1 hi (by show i < σ 5 (σ 63 x1); omega)).symm
      have eb := ze i hi (by omega)
      rw [← show ge (cg σ 1) (σ 63 x1) i = σ 7 (σ 63 x1 * 8 + i) from cg_e r0 r1 hi (by show i < σ 5 (σ 63 x1); omega), ← e19] at eb
      have ok := nx_ok hW hG (x := (i, p)) ⟨r0, r1⟩ ⟨hi, by dsimp only; omega⟩ ⟨by dsimp only; omega, by rw [cg_L]; dsimp only; omega⟩ tk.2.2.1 hne
      obtain ⟨b1, b2, b3, b4, b5, b6, b7, b8⟩ := ok.2 il
      rw [cg_L] at b2
      have ni : ¬ gs (cg σ 1) (σ 63 x1) ≤ i := by omega
      have mon : ∀ k l, k < l → emc (cg σ 1) (ct σ) (σ 63 x1) (tr (cg σ 1) (ct σ) (σ 63 x1) (0, σ 65 x1) k) ≠ -1 → (tr (cg σ 1) (ct σ) (σ 63 x1) (0, σ 65 x1) k).2 < (tr (cg σ 1) (ct σ) (σ 63 x1) (0, σ 65 x1) l).2 := fun k l hk he => tg_ch hW hG (x := (0, σ 65 x1)) ⟨r0, r1⟩ ⟨by dsimp only; omega, by dsimp only; omega⟩ hs rfl hne hk he
      refine ⟨⟨by omega, by omega⟩, fun w => ?_, fun w => ?_⟩
      · -- not WATER
        rw [e19] at w
        have en : nx (cg σ 1) (ct σ) (σ 63 x1) (i, p) = (i + 1, eE (cg σ 1) (ct σ) r19 p) := by
          unfold nx
          dsimp only
          rw [if_neg ni, if_neg w, e19]
        have ew : emw (cg σ 1) (ct σ) (σ 63 x1) (i, p) = 0 := by
          unfold emw
          dsimp only
          rw [if_neg ni, if_neg w]
        have ec : emc (cg σ 1) (ct σ) (σ 63 x1) (i, p) = if 65 ≤ r19 ∧ r19 ≤ 70 then r19 - 65 else -1 := by
          unfold emc
          dsimp only
          rw [if_neg ni, if_neg w, e19]
        rw [en] at b2 b3 b4 b7
        dsimp only at b2 b3 b4 b7
        refine ⟨⟨by omega, by omega, by omega, by omega, by rw [k1]; exact t0, by rw [k1]; exact t1, MB_rows hM k54 k56 k58 k60, fun a => ?_⟩, fun r25 e25 => ⟨⟨by omega, by omega⟩, fun r29 e29 => ?_⟩⟩
        · rw [k1] at a
          rw [k3]
          have := hT p (by omega) a
          exact ⟨by omega, by omega⟩
        · have fp := hF p (by omega) (by omega)
          have e25 : r25 = eE (cg σ 1) (ct σ) r19 p := by
            rw [e25]
            show ans_X2_elementEnd r19 p s = _
            rw [eE_lnk (by rw [cgs]; exact hW) (by omega) eb.1 (by rw [k54, cgs]; exact fp.2.1) (by rw [k56, cgs]; exact fp.2.2), cgs, cts]
          have e29 : r29 = if 65 ≤ r19 ∧ r19 ≤ 70 then 1 else 0 := e29
          rw [← e25] at en b2 b3 b4 b7
          have nxt : ∀ s' : St, s' 75 = s 75 → CW (cg σ 1) (ct σ) σ x1 (σ 63 x1) (0, σ 65 x1) (m + 1) s' → r19 ≠ 35 → L_X3_walkPattern_31 Q x1 (σ 63 x1) (σ 5 (σ 63 x1)) n r25 (i + 1) s' := fun s' h' hC' hd => by
            refine ih r25 (i + 1) s' (by omega) (by omega) ⟨m + 1, hC', ?_⟩ ?_
            · show nx _ _ _ (tr _ _ _ _ m) = _
              rw [ht, en]
            · have := nI75_next h5 (by rw [← e19]; exact hd)
              unfold nI75 at this ⊢
              rw [h']
              exact this
          refine ⟨by rw [e29]; split <;> exact ⟨by decide, by decide⟩, fun a => ⟨fun d => ?_, fun d => ?_⟩, fun a => ?_⟩
          · have nr : ¬ (65 ≤ r19 ∧ r19 ≤ 70) := fun z => by
              rw [if_pos z] at e29
              omega
            rw [if_neg nr] at ec
            exact nxt s rfl (CW_none hC (by rw [ht]; exact ec) (by rw [ht]; exact ew)) d
          · have nr : ¬ (65 ≤ r19 ∧ r19 ≤ 70) := by omega
            rw [if_neg nr] at ec
            have hC' := CW_none hC (by rw [ht]; exact ec) (by rw [ht]; exact ew)
            have eg : ge (cg σ 1) (σ 63 x1) i = 35 := by rw [← e19]; exact d
            refine ⟨⟨by omega, by omega⟩, fun r36 e36 => ?_⟩
            have e36 : r36 = s 75 x1 := by rw [e36]; exact if_pos ⟨p0, by omega⟩
            have runv : r25 = RE (cg σ 1) 48 57 p := by
              have h1 : r25 = runE (cg σ 1) 48 57 p := by
                rw [e25, d]
                rfl
              unfold runE at h1
              by_cases z : p < RE (cg σ 1) 48 57 p
              · rw [if_pos z] at h1
                exact h1
              · rw [if_neg z] at h1
                omega
            rcases h5 with ⟨h1, h2⟩ | ⟨k, h1, h2, h3, h4⟩
            · have v36 : r36 = -1 := by rw [e36, h1, ui_s]
              refine ⟨by rw [v36]; exact ⟨by decide, by decide⟩, fun z => absurd v36 z, fun _ => ⟨⟨by omega, by omega, by rw [k1]; omega, by rw [k1]; exact t1, fun x a b => ?_⟩, fun r42 e42 => ⟨⟨by omega, by omega⟩, fun s44 e44 => ?_⟩⟩⟩
              · rw [k3]
                have := RE_all (cg σ 1) 48 57 _ p rfl x a (by omega)
                rw [cg_t (by omega) this.1] at this
                exact this.2
              · have e44 : s44 = up s 75 x1 r42 := by rw [e44]; exact if_pos ⟨p0, by omega⟩
                have e42 : r42 = dec (cg σ 1) p := by
                  rw [e42]
                  show nb (s 3) p (r25 - p).toNat = nb (gt (cg σ 1)) p (RE (cg σ 1) 48 57 p - p).toNat
                  rw [k3, runv]
                  refine nb_congr _ (fun x a b => ?_)
                  have := RE_all (cg σ 1) 48 57 _ p rfl x a (by omega)
                  exact (cg_t (b := 1) (by omega) this.1).symm
                have hC2 : CW (cg σ 1) (ct σ) σ x1 (σ 63 x1) (0, σ 65 x1) (m + 1) s44 := by
                  obtain ⟨c1, c2, c3, c4⟩ := hC'
                  rw [e44]
                  refine ⟨fun q a b e f => by rw [up_n _ _ _ b]; exact c1 q a b e f, by rw [up_n _ _ _ (by decide)]; exact c2, ?_, ?_⟩
                  · rw [up_n _ _ _ (by decide), up_n _ _ _ (by decide)]
                    exact c3
                  · rw [up_n _ _ _ (by decide), up_n _ _ _ (by decide)]
                    exact c4
                refine ih r25 (i + 1) s44 (by omega) (by omega) ⟨m + 1, hC2, ?_⟩ (Or.inr ⟨m, by rw [ht]; dsimp only; omega, by rw [ht]; exact eg, by rw [ht]; exact h2, ?_⟩)
                · show nx _ _ _ (tr _ _ _ _ m) = _
                  rw [ht, en]
                · rw [e44, up_s, h1, ui_ui, ht, e42]
            · have db := dec_b (cg σ 1) (tr (cg σ 1) (ct σ) (σ 63 x1) (0, σ 65 x1) k).2
              have v36 : r36 = dec (cg σ 1) (tr (cg σ 1) (ct σ) (σ 63 x1) (0, σ 65 x1) k).2 := by rw [e36, h4, ui_s]
              refine ⟨⟨by omega, by omega⟩, fun _ => ih r25 (i + 1) s (by omega) (by omega) ⟨m + 1, hC', ?_⟩ (Or.inr ⟨k, by omega, h2, h3, h4⟩), fun z => absurd (v36.symm.trans z) (by omega)⟩
              show nx _ _ _ (tr _ _ _ _ m) = _
              rw [ht, en]
          · have yr : 65 ≤ r19 ∧ r19 ≤ 70 := by
              by_cases z : 65 ≤ r19 ∧ r19 ≤ 70
              · exact z
              · rw [if_neg z] at e29
                exact absurd e29 a
            rw [if_pos yr] at ec
            rw [ec] at b7
            obtain ⟨d1, d2, d3, d4⟩ := b7 (by omega)
            refine ⟨⟨by omega, by omega⟩, fun s47 e47 => ?_⟩
            have e47 : s47 = up (up s 77 p (r19 - 65)) 79 p x1 := e47
            have hC' := CW_child hC (by rw [ht]; exact ew) (by rw [ht, ec]; omega) (fun k hk he => mon k m hk he)
            rw [ht, ec, ← e47] at hC'
            have h75' : s47 75 = s 75 := by rw [e47, up_n _ _ _ (by decide), up_n _ _ _ (by decide)]
            exact ⟨fun d => nxt s47 h75' hC' d, fun d => absurd yr (by omega)⟩
      · -- WATER
        have w' : ge (cg σ 1) (σ 63 x1) i = 126 := by rw [← e19]; exact w
        have i0 : i ≠ 0 := fun z => by
          subst z
          obtain ⟨-, -, hR3⟩ := hW
          exact ((hR3 _ r0 r1).2.2.2 (by omega)).1 w'
        have p1' : 1 ≤ p := by
          cases m with
          | zero =>
            have : (i : Int) = 0 := (congrArg Prod.fst ht).symm
            exact absurd this i0
          | succ m =>
            have h0 := ((nx_ok hW hG (x := (0, σ 65 x1)) ⟨r0, r1⟩ ⟨by dsimp only; omega, by dsimp only; omega⟩ hs rfl hne).2 (by dsimp only; omega)).2.2.2.2.2.2.2 rfl
            have h1 := tr_mono hW hG ⟨r0, r1⟩ hs rfl hne 1 m
            rw [Nat.add_comm, ht] at h1
            have h2 : tr (cg σ 1) (ct σ) (σ 63 x1) (0, σ 65 x1) 1 = nx (cg σ 1) (ct σ) (σ 63 x1) (0, σ 65 x1) := rfl
            rw [h2] at h1
            have h3 := h0.2.2.1
            dsimp only at h1 h3
            omega
        refine ⟨⟨p0, p1, by rw [k63]; exact r0, by rw [k63]; exact r1, hi, by rw [k63, cgs]; exact il, by rw [k63, cgs]; exact w', p1', by rw [k1]; omega, by rw [k63, cts, tk.2.2.1]; exact hne, MB_rows hM k54 k56 k58 k60, by rw [cgs]; exact hW, by rw [cgs, cts]; exact hG, by rw [k1, k58, k54, k56, cgs, cts]; exact hF⟩, fun r66 s64 hpost => ?_⟩
        obtain ⟨g75, m2, gC, gt2⟩ := hpost
        rw [k63, cgs, cts] at gC gt2
        have hC2 := CW_app hC (by rw [ht]; exact gC) mon
        have ht2 : tr (cg σ 1) (ct σ) (σ 63 x1) (0, σ 65 x1) (m + m2) = (i + 1, r66) := by rw [tr_add, ht]; exact gt2
        refine ⟨⟨by omega, by omega⟩, fun r70 e70 => ?_⟩
        have e70 : r70 = if 65 ≤ r19 ∧ r19 ≤ 70 then 1 else 0 := e70
        rw [if_neg (by omega)] at e70
        refine ⟨by rw [e70]; exact ⟨by decide, by decide⟩, fun _ => ⟨fun d => ih r66 (i + 1) s64 (by omega) (by omega) ⟨m + m2, hC2, ht2⟩ ?_, fun d => absurd d (by omega)⟩, fun z => absurd e70 z⟩
        have := nI75_next h5 (by rw [w']; decide)
        unfold nI75 at this ⊢
        rw [g75]
        exact this
theorem v_X3_walkPattern (x1 : Int) (σ : St) (hp : pre_X3_walkPattern x1 σ) : V_X3_walkPattern x1 σ (post_X3_walkPattern x1 σ) := by
  obtain ⟨p0, p1, r0, r1, s0, sL, hne, h75, hM, hW, hG, hF⟩ := id hp
  refine ⟨⟨by omega, by omega⟩, fun r4 e4 => ?_⟩
  have e4 : r4 = σ 63 x1 := by rw [e4]; exact if_pos ⟨p0, by omega⟩
  rw [e4]
  refine ⟨⟨r0, r1⟩, fun r8 e8 => ⟨⟨by omega, by omega⟩, fun r12 e12 => ?_⟩⟩
  have e8 : r8 = σ 5 (σ 63 x1) := e8
  have e12 : r12 = σ 65 x1 := by rw [e12]; exact if_pos ⟨p0, by omega⟩
  rw [e8, e12]
  exact ⟨10, l_X3_walkPattern σ x1 hp _ (fun s h => h) 10 _ 0 σ (by decide) (by decide) ⟨0, CW_0 _ _ _ _ _ _, rfl⟩ (Or.inl ⟨by rw [← h75, ui_id], fun i' a b => absurd a (by omega)⟩)⟩
