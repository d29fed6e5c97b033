/-- what a well-formed grammar is in the reference's cells -/
theorem mgW {f : Int → Int} (h : gWF (mg f 0)) : (0 ≤ f 0 ∧ f 0 ≤ 100) ∧ (∀ p, 0 ≤ p → p < f 0 → 32 ≤ f (1 + p) ∧ f (1 + p) ≤ 126) ∧ ∀ r, 0 ≤ r → r < 6 → (0 ≤ f (101 + r) ∧ f (101 + r) ≤ 8) ∧ (f (155 + r) = -1 ∨ (32 ≤ f (155 + r) ∧ f (155 + r) ≤ 126)) ∧ (∀ i, 0 ≤ i → i < f (101 + r) → 32 ≤ f (107 + 8 * r + i) ∧ f (107 + 8 * r + i) ≤ 126) ∧ (0 < f (101 + r) → f (107 + 8 * r + 0) ≠ 126 ∧ ¬ (65 ≤ f (107 + 8 * r + 0) ∧ f (107 + 8 * r + 0) ≤ 70)) := by
  obtain ⟨h1, h2, h3⟩ := h
  refine ⟨h1, fun p a b => ?_, fun r a b => ?_⟩
  · have := h2 p a b
    rw [m7_t a b] at this
    exact this
  · obtain ⟨g1, g2, g3, g4⟩ := h3 r a b
    rw [m7_s a b] at g1 g3 g4
    rw [m7_p a b] at g2
    refine ⟨g1, g2, fun i c d => ?_, fun c => ?_⟩
    · have := g3 i c d
      rw [m7_e a b c d] at this
      exact this
    · have := g4 c
      rw [m7_e a b (by decide) c] at this
      exact this
theorem v_X7_isOf (x1 x2 x3 : Int) (σ : St) (hp : pre_X7_isOf x1 x2 x3 σ) : V_X7_isOf x1 x2 x3 σ (post_X7_isOf x1 x2 x3 σ) := by
  simp only [pre_X7_isOf] at hp
  unfold V_X7_isOf
  simp only [pre_X7_in, ans_X7_in, forall_eq, b01, b01R]
  repeat' first | exact trivial | refine And.intro ?_ ?_ | intro _
  all_goals try simp only [post_X7_isOf, ans_X7_isOf]
  all_goals repeat' split
  all_goals first | rfl | omega | (exfalso; omega)
theorem l_X7_runEnd (lo hi : Int) (σ : St) (hW : gWF (mg (σ 81) 0)) (hlo : inR lo) (hhi : inR hi) (Q : Int → St → Prop) : ∀ (n : Nat) (p : Int), (σ 81 0 - p).toNat < n → 0 ≤ p → p ≤ σ 81 0 → Q (RE (mg (σ 81) 0) lo hi p) σ → L_X7_runEnd_3 Q lo hi n p σ := by
  obtain ⟨⟨t0, t1⟩, hT, hR⟩ := mgW hW
  intro n
  induction n with
  | zero => intro p hn; exact absurd hn (Nat.not_lt_zero _)
  | succ n ih =>
    intro p hn h0 hl hQ
    refine ⟨⟨h0, by omega, t0, t1, hlo, hhi, fun a => ?_⟩, fun r er => ?_⟩
    · have := hT p h0 a
      exact ⟨by omega, by omega⟩
    · have er : r = if p < σ 81 0 ∧ lo ≤ σ 81 (1 + p) ∧ σ 81 (1 + p) ≤ hi then 1 else 0 := er
      by_cases c : p < σ 81 0 ∧ lo ≤ σ 81 (1 + p) ∧ σ 81 (1 + p) ≤ hi
      · rw [if_pos c] at er
        have c2 : p < gl (mg (σ 81) 0) ∧ lo ≤ gt (mg (σ 81) 0) p ∧ gt (mg (σ 81) 0) p ≤ hi := by rw [m7_t h0 c.1]; exact c
        rw [RE_step c2] at hQ
        exact ⟨by rw [er]; exact ⟨by decide, by decide⟩, fun z => absurd (er.symm.trans z) (by decide), fun _ => ih (p + 1) (by omega) (by omega) (by omega) hQ⟩
      · rw [if_neg c] at er
        have c2 : ¬ (p < gl (mg (σ 81) 0) ∧ lo ≤ gt (mg (σ 81) 0) p ∧ gt (mg (σ 81) 0) p ≤ hi) := fun z => by
          rw [m7_t h0 z.1] at z
          exact c z
        rw [RE_stop c2] at hQ
        exact ⟨by rw [er]; exact ⟨by decide, by decide⟩, fun _ => hQ, fun z => absurd er z⟩
theorem v_X7_runEnd (x1 x2 x3 : Int) (σ : St) (hp : pre_X7_runEnd x1 x2 x3 σ) : V_X7_runEnd x1 x2 x3 σ (post_X7_runEnd x1 x2 x3 σ) := by
  obtain ⟨p0, p1, hW, h2, h3⟩ := hp
  exact ⟨_, l_X7_runEnd x2 x3 σ hW h2 h3 _ ((σ 81 0 - x1).toNat + 1) x1 (by omega) p0 p1 ⟨rfl, rfl⟩⟩
theorem v_X7_elementEnd (x1 x2 : Int) (σ : St) (hp : pre_X7_elementEnd x1 x2 σ) : V_X7_elementEnd x1 x2 σ (post_X7_elementEnd x1 x2 σ) := by
  obtain ⟨p0, p1, p2, p3, hW⟩ := hp
  obtain ⟨⟨t0, t1⟩, hT, hR⟩ := mgW hW
  have run : ∀ lo hi : Int, inR lo → inR hi → pre_X7_runEnd x2 lo hi σ := fun lo hi a b => ⟨p2, p3, hW, a, b⟩
  have rb : ∀ lo hi : Int, x2 ≤ RE (mg (σ 81) 0) lo hi x2 ∧ RE (mg (σ 81) 0) lo hi x2 ≤ σ 81 0 := fun lo hi => ⟨RE_ge _ lo hi _ x2 rfl, RE_le _ lo hi _ x2 rfl p3⟩
  have of : pre_X7_isOf x2 x1 x1 σ := ⟨p2, by omega, t0, t1, ⟨by omega, by omega⟩, ⟨by omega, by omega⟩, fun a => by have := hT x2 p2 a; exact ⟨by omega, by omega⟩⟩
  have fin : ∀ lo hi : Int, inR lo → inR hi → (eE (mg (σ 81) 0) (mt σ) x1 x2 = runE (mg (σ 81) 0) lo hi x2) → (pre_X7_runEnd x2 lo hi σ ∧ (∀ r : Int, r = ans_X7_runEnd x2 lo hi σ → (inR r ∧ (inR x2 ∧ ((r ≤ x2 → post_X7_elementEnd x1 x2 σ (-1) σ) ∧ (¬ (r ≤ x2) → post_X7_elementEnd x1 x2 σ r σ)))))) := by
    intro lo hi a b e
    refine ⟨run lo hi a b, fun r er => ?_⟩
    have er : r = RE (mg (σ 81) 0) lo hi x2 := er
    have := rb lo hi
    refine ⟨by rw [er]; exact ⟨by omega, by omega⟩, ⟨by omega, by omega⟩, fun c => ⟨?_, rfl⟩, fun c => ⟨?_, rfl⟩⟩
    · show -1 = eE _ _ _ _
      rw [e]
      unfold runE
      rw [← er, if_neg (by omega)]
    · show r = eE _ _ _ _
      rw [e]
      unfold runE
      rw [← er, if_pos (by omega)]
  refine ⟨⟨by omega, by omega⟩, fun r4 e4 => ?_⟩
  have e4 : r4 = if 65 ≤ x1 ∧ x1 ≤ 70 then 1 else 0 := e4
  by_cases c : 65 ≤ x1 ∧ x1 ≤ 70
  · rw [if_pos c] at e4
    refine ⟨by rw [e4]; exact ⟨by decide, by decide⟩, fun z => absurd (e4.symm.trans z) (by decide), fun _ => ⟨trivial, fun r49 e49 => ?_⟩⟩
    have e49 : r49 = 101 * (9 * (x1 - 65) + 0) + x2 := e49
    refine ⟨⟨by omega, by omega⟩, ?_, rfl⟩
    show _ = eE _ _ _ _
    unfold eE
    rw [if_pos c, e49]
    rfl
  · rw [if_neg c] at e4
    refine ⟨by rw [e4]; exact ⟨by decide, by decide⟩, fun _ => ⟨⟨by omega, by omega⟩, fun a => ⟨fun z => absurd a z, fun _ => fin 48 57 (by decide) (by decide) (by unfold eE; rw [if_neg c, if_pos a])⟩, fun a => ⟨fun b => ⟨of, fun r er => ?_⟩, fun b => ⟨fun _ => fin 97 122 (by decide) (by decide) (by unfold eE; rw [if_neg c, if_neg a, if_pos b]), fun z => absurd z a⟩⟩⟩, fun z => absurd e4 z⟩
    have er : r = if x2 < σ 81 0 ∧ x1 ≤ σ 81 (1 + x2) ∧ σ 81 (1 + x2) ≤ x1 then 1 else 0 := er
    have ee : eE (mg (σ 81) 0) (mt σ) x1 x2 = if x2 < σ 81 0 ∧ x1 ≤ σ 81 (1 + x2) ∧ σ 81 (1 + x2) ≤ x1 then x2 + 1 else -1 := by
      unfold eE
      rw [if_neg c, if_neg a, if_neg b]
      by_cases d : x2 < σ 81 0
      · rw [m7_t p2 d]
        by_cases f : σ 81 (1 + x2) = x1
        · rw [if_pos (show x2 < gl (mg (σ 81) 0) ∧ σ 81 (1 + x2) = x1 from ⟨d, f⟩), if_pos ⟨d, by omega, by omega⟩]
        · rw [if_neg (fun z => f z.2), if_neg (by omega)]
      · rw [if_neg (fun z => d z.1), if_neg (fun z => d z.1)]
    by_cases d : x2 < σ 81 0 ∧ x1 ≤ σ 81 (1 + x2) ∧ σ 81 (1 + x2) ≤ x1
    · rw [if_pos d] at er ee
      exact ⟨by rw [er]; exact ⟨by decide, by decide⟩, fun z => absurd (er.symm.trans z) (by decide), fun _ => ⟨ee.symm, rfl⟩⟩
    · rw [if_neg d] at er ee
      exact ⟨by rw [er]; exact ⟨by decide, by decide⟩, fun _ => ⟨ee.symm, rfl⟩, fun z => absurd er z⟩
theorem l_X7_islandAt (p : Int) (σ : St) (h0 : 0 ≤ p) (h1 : p ≤ 100) (hM : M8 σ) (Q : Int → St → Prop) (hQ : Q (first (mt σ) p) σ) : ∀ (n : Nat) (y : Int), (6 - y).toNat < n → 0 ≤ y → y ≤ 6 → (∀ r, 0 ≤ r → r < y → mt σ r 0 p = -1) → L_X7_islandAt_2 Q p n y σ := by
  intro n
  induction n with
  | zero => intro y hn; exact absurd hn (Nat.not_lt_zero _)
  | succ n ih =>
    intro y hn hy hy6 hI
    refine ⟨⟨by omega, by omega⟩, fun c => ?_, fun c => ⟨trivial, fun r6 e6 => ?_⟩⟩
    · rw [← isF_first (T := mt σ) (p := p) (v := -1) (Or.inl ⟨rfl, fun r a b => hI r (by omega) (by omega)⟩)] at hQ
      exact hQ
    · have e6 : r6 = 101 * (9 * y + 0) + p := e6
      have hm := hM r6
      have ev : σ 85 r6 = mt σ y 0 p := by rw [e6]; rfl
      refine ⟨⟨by omega, by omega⟩, ⟨by omega, by omega⟩, fun d => ih (y + 1) (by omega) (by omega) (by omega) (fun r a b => ?_), fun d => ?_⟩
      · by_cases z : r = y
        · subst z
          rw [← ev]
          exact d
        · exact hI r a (by omega)
      · rw [← isF_first (T := mt σ) (p := p) (v := y) (Or.inr ⟨by omega, by omega, by rw [← ev]; exact d, fun r a b => hI r (by omega) b⟩)] at hQ
        exact hQ
theorem v_X7_islandAt (x1 : Int) (σ : St) (hp : pre_X7_islandAt x1 σ) : V_X7_islandAt x1 σ (post_X7_islandAt x1 σ) := by
  obtain ⟨p0, p1, hM⟩ := hp
  exact ⟨7, l_X7_islandAt x1 σ p0 p1 hM _ ⟨rfl, rfl⟩ 7 0 (by decide) (by decide) (by decide) (fun r a b => absurd a (by omega))⟩
theorem v_X7_waterEnd (x1 x2 x3 : Int) (σ : St) (hp : pre_X7_waterEnd x1 x2 x3 σ) : V_X7_waterEnd x1 x2 x3 σ (post_X7_waterEnd x1 x2 x3 σ) := by
  obtain ⟨p0, p1, p2, p3, p4, p5, hW, hM⟩ := hp
  obtain ⟨⟨t0, t1⟩, hT, hR⟩ := mgW hW
  obtain ⟨⟨z0, z1⟩, zs, ze, zf⟩ := hR x1 p0 p1
  refine ⟨trivial, fun r4 e4 => ?_⟩
  have e4 : r4 = 101 * (9 * x1 + (x2 + 1)) + x3 := e4
  have hm := hM r4
  have ev : σ 85 r4 = mt σ x1 (x2 + 1) x3 := by rw [e4]; rfl
  refine ⟨⟨by omega, by omega⟩, ⟨by omega, by omega⟩, fun a => ⟨⟨p4, by omega, hM⟩, fun r11 e11 => ?_⟩, fun a => ⟨?_, rfl⟩⟩
  · have an : ¬ mt σ x1 (x2 + 1) x3 ≠ -1 := fun z => z (ev.symm.trans a)
    have e11 : r11 = first (mt σ) x3 := e11
    have fr := first_rng (mt σ) x3
    rw [← e11] at fr
    refine ⟨⟨by omega, by omega⟩, fun b => ⟨⟨by omega, by omega⟩, ⟨by omega, by omega⟩, fun c => ⟨?_, rfl⟩, fun c => ⟨⟨by omega, by omega⟩, ⟨by omega, by omega⟩, ?_, ⟨by omega, by omega⟩, fun d => ⟨trivial, fun r25 e25 => ?_⟩, fun d => ⟨?_, rfl⟩⟩⟩, fun b => ⟨trivial, fun r30 e30 => ?_⟩⟩
    · show -1 = ans_X7_waterEnd x1 x2 x3 σ
      unfold ans_X7_waterEnd
      rw [if_neg an, ← e11, if_neg (fun z => z b)]
      exact (if_pos (Or.inl c)).symm
    · have := hT x3 p4 (by omega)
      exact ⟨by omega, by omega⟩
    · have e25 : r25 = 101 * (9 * x1 + x2) + (x3 + 1) := e25
      refine ⟨⟨by omega, by omega⟩, ?_, rfl⟩
      show σ 85 r25 = ans_X7_waterEnd x1 x2 x3 σ
      unfold ans_X7_waterEnd
      rw [if_neg an, ← e11, if_neg (fun z => z b), m7_t p4 (by omega), m7_p p0 p1, e25]
      refine (if_neg ?_).symm
      rintro (z | z)
      · exact c z
      · exact d z
    · show -1 = ans_X7_waterEnd x1 x2 x3 σ
      unfold ans_X7_waterEnd
      rw [if_neg an, ← e11, if_neg (fun z => z b), m7_t p4 (by omega), m7_p p0 p1]
      exact (if_pos (Or.inr d)).symm
    · have e30 : r30 = 101 * (9 * r11 + 0) + x3 := e30
      have fr := fr.resolve_left b
      have ev2 : σ 85 r30 = mt σ r11 0 x3 := by rw [e30]; rfl
      have hm2 := hM r30
      refine ⟨⟨by omega, by omega⟩, trivial, fun r35 e35 => ?_⟩
      have e35 : r35 = 101 * (9 * x1 + x2) + σ 85 r30 := e35
      have nn : 0 ≤ σ 85 r30 := by
        have := fr.2.2
        rw [← ev2] at this
        omega
      refine ⟨⟨by omega, by omega⟩, ?_, rfl⟩
      show σ 85 r35 = ans_X7_waterEnd x1 x2 x3 σ
      unfold ans_X7_waterEnd
      rw [if_neg an, ← e11, if_pos b, ← ev2, e35]
      rfl
  · show σ 85 r4 = ans_X7_waterEnd x1 x2 x3 σ
    unfold ans_X7_waterEnd
    rw [← ev, if_pos a]
theorem v_X7_suffixEnd (x1 x2 x3 : Int) (σ : St) (hp : pre_X7_suffixEnd x1 x2 x3 σ) : V_X7_suffixEnd x1 x2 x3 σ (post_X7_suffixEnd x1 x2 x3 σ) := by
  obtain ⟨p0, p1, p2, p3, p4, p5, hW, hM⟩ := hp
  obtain ⟨⟨t0, t1⟩, hT, hR⟩ := mgW hW
  obtain ⟨⟨z0, z1⟩, zs, ze, zf⟩ := hR x1 p0 p1
  have gz : gs (mg (σ 81) 0) x1 = σ 81 (101 + x1) := m7_s p0 p1
  refine ⟨⟨by omega, by omega⟩, ⟨by omega, by omega⟩, ⟨by omega, by omega⟩, fun a => ⟨⟨p0, p1, p2, by omega⟩, fun r8 e8 => ?_⟩, fun a => ⟨fun b => ⟨?_, rfl⟩, fun b => ⟨?_, rfl⟩⟩⟩
  · have e8 : r8 = σ 81 (107 + 8 * x1 + x2) := e8
    have el : ge (mg (σ 81) 0) x1 x2 = r8 := by rw [e8]; exact m7_e p0 p1 p2 (by omega)
    have eb := ze x2 p2 (by omega)
    rw [← e8] at eb
    refine ⟨⟨by omega, by omega⟩, fun b => ⟨⟨eb.1, eb.2, p4, p5, hW⟩, fun r14 e14 => ?_⟩, fun b => ⟨⟨p0, p1, p2, by omega, p4, p5, hW, hM⟩, fun r25 e25 => ⟨?_, rfl⟩⟩⟩
    · have e14 : r14 = eE (mg (σ 81) 0) (mt σ) r8 x3 := e14
      have e0 : ∀ r, 0 ≤ r → r < 6 → -1 ≤ mt σ r 0 x3 ∧ mt σ r 0 x3 ≤ 100 := fun r _ _ => hM _
      have rb : -1 ≤ r14 ∧ r14 ≤ 100 := by
        rw [e14]
        unfold eE
        split
        · exact e0 _ (by omega) (by omega)
        · have h1 := runE_b (g := mg (σ 81) 0) (lo := 48) (hi := 57) (p := x3) p5
          have h2 := runE_b (g := mg (σ 81) 0) (lo := 97) (hi := 122) (p := x3) p5
          rw [mg_L] at h1 h2
          split
          · omega
          · split
            · omega
            · split
              · next h => have := h.1; rw [mg_L] at this; omega
              · omega
      refine ⟨⟨by omega, by omega⟩, fun c => ⟨trivial, fun r20 e20 => ?_⟩, fun c => ⟨?_, rfl⟩⟩
      · have e20 : r20 = 101 * (9 * x1 + (x2 + 1)) + r14 := e20
        refine ⟨⟨by omega, by omega⟩, ?_, rfl⟩
        show σ 85 r20 = rhs (mg (σ 81) 0) (mt σ) x1 x2 x3
        unfold rhs
        rw [gz, if_neg a, el, if_neg b, ← e14, if_neg c, e20]
        rfl
      · show -1 = rhs (mg (σ 81) 0) (mt σ) x1 x2 x3
        unfold rhs
        rw [gz, if_neg a, el, if_neg b, ← e14, if_pos c]
    · show r25 = rhs (mg (σ 81) 0) (mt σ) x1 x2 x3
      unfold rhs
      rw [gz, if_neg a, el, if_pos b, e25]
      rfl
  · show x3 = rhs (mg (σ 81) 0) (mt σ) x1 x2 x3
    unfold rhs
    rw [gz, if_pos a, if_neg b]
  · show -1 = rhs (mg (σ 81) 0) (mt σ) x1 x2 x3
    unfold rhs
    rw [gz, if_pos a, if_pos b]
