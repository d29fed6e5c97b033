/-- the class's way of an element's end -/
theorem eE_lnk {s : St} (hW : gWF (cg s 1)) {e p : Int} (hp : 0 ≤ p) (he : 32 ≤ e) (h54 : s 54 p = runE (cg s 1) 48 57 p) (h56 : s 56 p = runE (cg s 1) 97 122 p) : ans_X2_elementEnd e p s = eE (cg s 1) (ct s) e p := by
  unfold ans_X2_elementEnd eE
  by_cases a : e = 35
  · rw [if_pos a, if_neg (by omega), if_pos a, h54]
  · rw [if_neg a]
    by_cases b : e = 64
    · rw [if_pos b, if_neg (by omega), if_neg a, if_pos b, h56]
    · rw [if_neg b]
      by_cases c : 65 ≤ e ∧ e ≤ 70
      · rw [if_pos c, if_pos c]
      · rw [if_neg c, if_neg c, if_neg a, if_neg b]
        by_cases d : p < s 1 4
        · rw [cg_t hp d]
          by_cases f : s 3 p = e
          · rw [if_pos ⟨d, f⟩, if_pos ⟨d, f⟩]
          · rw [if_neg (fun z => f z.2), if_neg (fun z => f z.2)]
        · rw [if_neg (fun z => d z.1), if_neg (fun z => d z.1)]
theorem rst_lnk {s : St} (hW : gWF (cg s 1)) (hM : MB s) {r i p : Int} (hr : 0 ≤ r ∧ r < 6) (hi : 1 ≤ i) (hi2 : i ≤ s 5 r) (hp : 0 ≤ p) (hpl : p ≤ s 1 4) (h54 : s 54 p = runE (cg s 1) 48 57 p) (h56 : s 56 p = runE (cg s 1) 97 122 p) (h58 : s 58 p = first (ct s) p) : rstv s r i p = rhs (cg s 1) (ct s) r i p := by
  obtain ⟨⟨t0, t1⟩, hT, hR⟩ := cgW hW
  obtain ⟨⟨z0, z1⟩, zs, ze, zf⟩ := hR r hr.1 hr.2
  unfold rstv rhs
  rw [cg_s hr.1 hr.2]
  by_cases e : i = s 5 r
  · rw [if_pos e, if_pos e, if_neg (by omega)]
  · rw [if_neg e, if_neg e, cg_e hr.1 hr.2 (by omega) (show i < s (1 + 4) r by show i < s 5 r; omega)]
    by_cases w : s 7 (r * 8 + i) = 126
    · rw [if_pos w, if_pos w]
      unfold ans_X2_waterRestEnd
      by_cases a : ct s r (i + 1) p = -1
      · have an : ¬ ¬ ct s r (i + 1) p = -1 := fun z => z a
        rw [if_neg an, if_neg an, h58]
        rcases first_rng (ct s) p with y | ⟨y1, y2, y3⟩
        · have yn : ¬ ¬ first (ct s) p = -1 := fun z => z y
          rw [if_neg yn, if_neg yn]
          by_cases d : p < s 1 4
          · rw [cg_t hp d, cg_p hr.1 hr.2, cg_L]
            by_cases f : s 3 p = s 9 r
            · rw [if_pos (Or.inr f), if_pos (Or.inr f)]
            · have h1 : ¬ (¬ p < s 1 4 ∨ s 3 p = s 9 r) := fun z => z.elim (fun z => z d) f
              have h2 : ¬ (p = s 1 4 ∨ s 3 p = s 9 r) := fun z => z.elim (fun z => by omega) f
              rw [if_neg h1]
              exact (if_neg h2).symm
          · rw [if_pos (Or.inl d)]
            exact (if_pos (Or.inl (show p = s 1 4 by omega))).symm
        · have yn : ¬ first (ct s) p = -1 := by omega
          rw [if_pos yn, if_pos yn, tget_nn]
          have := hM.2.2.2 ((first (ct s) p * 9 + 0) * 101 + p)
          have : -1 ≤ ct s (first (ct s) p) 0 p ∧ ct s (first (ct s) p) 0 p ≤ 100 := this
          omega
      · rw [if_pos a, if_pos a]
    · rw [if_neg w, if_neg w]
      have hb := ze i (by omega) (by omega)
      rw [eE_lnk hW hp hb.1 h54 h56]
      have eb := eEnd_b hM (x := s 7 (r * 8 + i)) (p := p) (by omega) hp t1
      rw [eE_lnk hW hp hb.1 h54 h56] at eb
      unfold tget
      by_cases c : 0 ≤ eE (cg s 1) (ct s) (s 7 (r * 8 + i)) p
      · have cn : ¬ eE (cg s 1) (ct s) (s 7 (r * 8 + i)) p = -1 := by omega
        rw [if_pos c]
        exact (if_neg cn).symm
      · have cn : eE (cg s 1) (ct s) (s 7 (r * 8 + i)) p = -1 := by omega
        rw [if_neg c]
        exact (if_pos cn).symm
def UI (σ : St) (p : Int) (s : St) : Prop := MB s ∧ (∀ q, q ≠ 54 → q ≠ 56 → q ≠ 58 → q ≠ 60 → s q = σ q) ∧ ∀ q, p < q → q ≤ σ 1 4 → GoodAt (cg σ 1) (ct s) q ∧ s 58 q = first (ct s) q ∧ s 54 q = runE (cg σ 1) 48 57 q ∧ s 56 q = runE (cg σ 1) 97 122 q
/-- the runs at a place, out of the next place's -/
theorem run_mark {s : St} {σ : St} {p : Int} (k : Nat) (lo hi : Int) (hlo : 32 ≤ lo) (h1 : s 1 = σ 1) (h3 : s 3 = σ 3) (hp : 0 ≤ p) (hpl : p ≤ σ 1 4) (hL : σ 1 4 ≤ 100) (hr : ∀ q, p < q → q ≤ σ 1 4 → s (k + 1) q = runE (cg σ 1) lo hi q) : (if lo ≤ ans_X5_textAt p s ∧ ans_X5_textAt p s ≤ hi then ans_X2_runEnd k 101 p s else -1) = runE (cg σ 1) lo hi p := by
  unfold ans_X5_textAt
  rw [h1, h3]
  by_cases a : p < σ 1 4
  · rw [if_pos a]
    by_cases b : lo ≤ σ 3 p ∧ σ 3 p ≤ hi
    · rw [if_pos b, runE_next hp (by rw [cg_t hp a]; exact ⟨a, b⟩)]
      unfold ans_X2_runEnd
      rw [hr (p + 1) (by omega) (by omega)]
      by_cases c : runE (cg σ 1) lo hi (p + 1) = -1
      · rw [if_neg (fun z => z.2.2 c), if_pos c]
      · rw [if_pos ⟨by omega, by omega, c⟩, if_neg c]
    · rw [if_neg b, runE_no (by rw [cg_t hp a]; exact fun z => b z.2)]
  · rw [if_neg a, if_neg (by omega), runE_no (fun z => a z.1)]
def UJ (σ : St) (p : Int) (s11 : St) (y : Int) (t : St) : Prop := MB t ∧ (∀ q, q ≠ 60 → t q = s11 q) ∧ (∀ r i q, 0 ≤ r → r < 6 → 0 ≤ i → i ≤ 8 → 0 ≤ q → q ≤ 100 → (i = 0 ∨ q ≠ p ∨ y ≤ r) → ct t r i q = ct s11 r i q) ∧ (∀ r, 0 ≤ r → r < y → ∀ i, 1 ≤ i → i ≤ σ 5 r → ct t r i p = rstv t r i p)
theorem l_X2_update_24 (σ : St) (p : Int) (s11 : St) (hp : 0 ≤ p ∧ p ≤ 100) (hW : gWF (cg σ 1)) (hs : ∀ q, q ≠ 54 → q ≠ 56 → q ≠ 58 → q ≠ 60 → s11 q = σ q) (hne : ∀ f, 0 ≤ f → f < 6 → ct s11 f 0 p ≠ p) (Q : St → Prop) (K : St → Prop) (hK : ∀ t, UJ σ p s11 6 t → K t) : ∀ (n : Nat) (y : Int) (t : St), (6 - y).toNat < n → 0 ≤ y → y ≤ 6 → UJ σ p s11 y t → L_X2_update_24 Q K p n y t := by
  obtain ⟨⟨t0, t1⟩, hT, hR⟩ := cgW hW
  intro n
  induction n with
  | zero => intro y t hy; exact absurd hy (Nat.not_lt_zero _)
  | succ n ih =>
    intro y t hy h0 h6 hI
    obtain ⟨i1, i2, i3, i4⟩ := id hI
    have tq : ∀ q, q ≠ 54 → q ≠ 56 → q ≠ 58 → q ≠ 60 → t q = σ q := fun q a b c e => by rw [i2 q e]; exact hs q a b c e
    have gt' : cg t 1 = cg σ 1 := cg_congr (fun q a b => tq q (by omega) (by omega) (by omega) (by omega))
    have hne' : ∀ f, 0 ≤ f → f < 6 → ct t f 0 p ≠ p := fun f a b => by
      rw [i3 f 0 p a b (by decide) (by decide) hp.1 hp.2 (Or.inl rfl)]
      exact hne f a b
    have key : ∀ t', y < 6 → post_X2_matchRests y p t t' → UJ σ p s11 (y + 1) t' := by
      intro t' hy6 hpost
      obtain ⟨g1, g2, g3, g4⟩ := hpost
      have t5 : t 5 = σ 5 := tq 5 (by decide) (by decide) (by decide) (by decide)
      have t7 : t 7 = σ 7 := tq 7 (by decide) (by decide) (by decide) (by decide)
      have t1' : t 1 = σ 1 := tq 1 (by decide) (by decide) (by decide) (by decide)
      refine ⟨g1, fun q a => by rw [g2 q a]; exact i2 q a, fun r i q a b c e f g h => ?_, fun r a b i c e => ?_⟩
      · rw [g3 r i q a b c e f g (by omega)]
        exact i3 r i q a b c e f g (by omega)
      · by_cases z : r = y
        · subst z
          exact g4 i c (by rw [t5]; exact e)
        · obtain ⟨⟨z0, z1⟩, zs, ze, zf⟩ := hR r a (by omega)
          rw [g3 r i p a (by omega) (by omega) (by omega) hp.1 hp.2 (Or.inl z), i4 r a (by omega) i c e]
          symm
          by_cases u : i = σ 5 r
          · unfold rstv
            rw [g2 5 (by decide), t5, if_pos u, if_pos u]
          · refine rstv_congr g2 i1 hp (by rw [t1']; exact t1) (by rw [t7]; have := ze i (by omega) (by omega); omega) c (fun q x v w => ?_) (fun f x v => ?_) hne' (fun q x v w w2 => ?_)
            · exact g3 r (i + 1) q a (by omega) (by omega) (by omega) x v (Or.inl z)
            · exact g3 f 0 p x v (by decide) (by decide) hp.1 hp.2 (Or.inr (Or.inl rfl))
            · exact g3 r i q a (by omega) (by omega) (by omega) x v (Or.inl z)
    refine ⟨⟨by omega, by omega⟩, fun h => hK t ?_, fun h => ⟨⟨h0, by omega, hp.1, hp.2, i1, by rw [gt']; exact hW, hne'⟩, fun t' hpost => ih (y + 1) t' (by omega) (by omega) (by omega) (key t' (by omega) hpost)⟩⟩
    rw [show y = 6 by omega] at hI
    exact hI
theorem UI_step {σ : St} {p : Int} {s s8 s11 t : St} (hp : 0 ≤ p) (hpl : p ≤ σ 1 4) (hW : gWF (cg σ 1)) (hI : UI σ p s) (e8 : s8 = eff_X2_markRuns p s) : (MB s8 ∧ (∀ q, q ≠ 54 → q ≠ 56 → s8 q = s q) ∧ s8 54 p = runE (cg σ 1) 48 57 p ∧ s8 56 p = runE (cg σ 1) 97 122 p ∧ (∀ j, j ≠ p → s8 54 j = s 54 j ∧ s8 56 j = s 56 j)) ∧
    (post_X2_matchIslands p s8 s11 → (∀ q, q ≠ 54 → q ≠ 56 → q ≠ 58 → q ≠ 60 → s11 q = σ q) ∧ (∀ f, 0 ≤ f → f < 6 → ct s11 f 0 p = -1 ∨ (p < ct s11 f 0 p ∧ ct s11 f 0 p ≤ σ 1 4)) ∧ (UJ σ p s11 6 t → UI σ (p - 1) t)) := by
  obtain ⟨⟨t0, t1⟩, hT, hR⟩ := cgW hW
  obtain ⟨i1, i2, i3⟩ := hI
  have s1 : s 1 = σ 1 := i2 1 (by decide) (by decide) (by decide) (by decide)
  have s3 : s 3 = σ 3 := i2 3 (by decide) (by decide) (by decide) (by decide)
  have v54 := run_mark (p := p) 53 48 57 (by decide) s1 s3 hp hpl t1 (fun q a b => (i3 q a b).2.2.1)
  have v56 := run_mark (p := p) 55 97 122 (by decide) s1 s3 hp hpl t1 (fun q a b => (i3 q a b).2.2.2)
  have e8 : s8 = up (up s 54 p (runE (cg σ 1) 48 57 p)) 56 p (runE (cg σ 1) 97 122 p) := by
    rw [e8, ← v54, ← v56]
    rfl
  have b54 := runE_b (g := cg σ 1) (lo := 48) (hi := 57) hpl
  have b56 := runE_b (g := cg σ 1) (lo := 97) (hi := 122) hpl
  rw [cg_L] at b54 b56
  have r8 : ∀ q, q ≠ 54 → q ≠ 56 → s8 q = s q := fun q a b => by rw [e8, up_n _ _ _ b, up_n _ _ _ a]
  have r54 : s8 54 = ui (s 54) p (runE (cg σ 1) 48 57 p) := by rw [e8, up_n _ _ _ (by decide), up_s]
  have r56 : s8 56 = ui (s 56) p (runE (cg σ 1) 97 122 p) := by rw [e8, up_s, up_n _ _ _ (by decide)]
  have m8 : MB s8 := by
    refine ⟨fun j => ?_, fun j => ?_, fun j => ?_, fun j => ?_⟩
    · rw [r54]; unfold ui; split
      · omega
      · exact i1.1 j
    · rw [r56]; unfold ui; split
      · omega
      · exact i1.2.1 j
    · rw [r8 58 (by decide) (by decide)]; exact i1.2.2.1 j
    · rw [r8 60 (by decide) (by decide)]; exact i1.2.2.2 j
  refine ⟨⟨m8, r8, by rw [r54, ui_s], by rw [r56, ui_s], fun j a => ⟨by rw [r54, ui_n _ _ a], by rw [r56, ui_n _ _ a]⟩⟩, fun hpost => ?_⟩
  obtain ⟨g1, g2, g3, g4, g5, g6⟩ := hpost
  have a8 : ∀ q, q ≠ 54 → q ≠ 56 → q ≠ 58 → q ≠ 60 → s8 q = σ q := fun q a b c e => by rw [r8 q a b]; exact i2 q a b c e
  have a11 : ∀ q, q ≠ 54 → q ≠ 56 → q ≠ 58 → q ≠ 60 → s11 q = σ q := fun q a b c e => by rw [g2 q c e]; exact a8 q a b c e
  have c8 : ct s8 = ct s := ct_row (r8 60 (by decide) (by decide))
  have cg8 : cg s8 1 = cg σ 1 := cg_congr (fun q a b => a8 q (by omega) (by omega) (by omega) (by omega))
  have cg11 : cg s11 1 = cg σ 1 := cg_congr (fun q a b => a11 q (by omega) (by omega) (by omega) (by omega))
  have BD := bnd hW (p := p) (by omega) (fun q a b => (i3 q a b).1)
  have z5 : s8 5 = σ 5 := a8 5 (by decide) (by decide) (by decide) (by decide)
  have z7 : s8 7 = σ 7 := a8 7 (by decide) (by decide) (by decide) (by decide)
  have isl : ∀ r, 0 ≤ r → r < 6 → (ct s11 r 0 p = -1 ∨ (p < ct s11 r 0 p ∧ ct s11 r 0 p ≤ σ 1 4)) ∧ (∀ T' : Tb, (∀ x, p < x → x ≤ σ 1 4 → T' r 1 x = ct s11 r 1 x) → ct s11 r 0 p = rhs (cg σ 1) T' r 0 p) := by
    intro r a b
    obtain ⟨⟨y0, y1⟩, ys, ye, yf⟩ := hR r a b
    have v := g5 r a b
    rw [z5, z7] at v
    unfold rhs
    rw [cg_s a b]
    show _ ∧ ∀ T' : Tb, _ → _ = if (0 : Int) = σ 5 r then _ else _
    by_cases k0 : σ 5 r ≤ 0
    · rw [if_pos k0] at v
      exact ⟨Or.inl v, fun T' _ => by rw [v, if_pos (show (0 : Int) = σ 5 r by omega), if_pos rfl]⟩
    · obtain ⟨f1, f2⟩ := yf (by omega)
      have eb := ye 0 (by decide) (by omega)
      have g0 : ge (cg σ 1) r 0 = σ 7 (r * 8 + 0) := cg_e a b (by decide) (by show 0 < σ 5 r; omega)
      have lk : ans_X2_elementEnd (σ 7 (r * 8 + 0)) p s8 = eE (cg σ 1) (ct s8) (σ 7 (r * 8 + 0)) p := by
        rw [← cg8]
        exact eE_lnk (by rw [cg8]; exact hW) hp eb.1 (by rw [cg8, r54, ui_s]) (by rw [cg8, r56, ui_s])
      have nr := eE_nr (g := cg σ 1) (T := ct s8) (e := σ 7 (r * 8 + 0)) (p := p) hpl f2
      rw [cg_L] at nr
      have ind : ∀ T' : Tb, eE (cg σ 1) T' (σ 7 (r * 8 + 0)) p = eE (cg σ 1) (ct s8) (σ 7 (r * 8 + 0)) p := fun T' => by
        unfold eE
        rw [if_neg f2, if_neg f2]
      rw [if_neg k0, lk] at v
      rw [g0]
      have n0 : ¬ (0 : Int) = σ 5 r := by omega
      rcases nr with nr | nr
      · have vv : ct s11 r 0 p = -1 := by
          rw [v, nr]
          rfl
        refine ⟨Or.inl vv, fun T' _ => ?_⟩
        rw [if_neg n0, if_neg f1, ind T', if_pos nr, vv]
      · have h1 : ct s11 r 1 (eE (cg σ 1) (ct s8) (σ 7 (r * 8 + 0)) p) = ct s8 r 1 (eE (cg σ 1) (ct s8) (σ 7 (r * 8 + 0)) p) := g4 r 1 _ a b (by decide) (by decide) (by omega) (by omega) (Or.inl (by decide))
        have vv : ct s11 r 0 p = ct s11 r 1 (eE (cg σ 1) (ct s8) (σ 7 (r * 8 + 0)) p) := by
          rw [v, tget_nn (by omega), h1]
        refine ⟨?_, fun T' hT' => ?_⟩
        · rw [vv, h1, c8]
          rw [c8] at nr
          rcases (BD _ _ (Nat.le_refl _) nr.1 nr.2).2 r a b 1 (by decide) (by rw [cg_s a b]; show 1 ≤ σ 5 r; omega) with u | u
          · exact Or.inl u
          · rw [cg_L] at u
            exact Or.inr ⟨by omega, u.2⟩
        · have nn : ¬ eE (cg σ 1) (ct s8) (σ 7 (r * 8 + 0)) p = -1 := by omega
          rw [if_neg n0, if_neg f1, ind T', if_neg nn, vv]
          exact (hT' _ nr.1 nr.2).symm
  refine ⟨a11, fun f a b => (isl f a b).1, fun hJ => ?_⟩
  obtain ⟨j1, j2, j3, j4⟩ := hJ
  have at' : ∀ q, q ≠ 54 → q ≠ 56 → q ≠ 58 → q ≠ 60 → t q = σ q := fun q a b c e => by rw [j2 q e]; exact a11 q a b c e
  have cgt : cg t 1 = cg σ 1 := cg_congr (fun q a b => at' q (by omega) (by omega) (by omega) (by omega))
  have ctq : ∀ r i x, 0 ≤ r → r < 6 → 0 ≤ i → i ≤ 8 → p < x → x ≤ σ 1 4 → ct t r i x = ct s r i x := fun r i x a b c e f g => by
    rw [j3 r i x a b c e (by omega) (by omega) (Or.inr (Or.inl (by omega))), g4 r i x a b c e (by omega) (by omega) (Or.inr (by omega)), c8]
  have t58 : t 58 = s11 58 := j2 58 (by decide)
  have t54 : t 54 = s8 54 := by rw [j2 54 (by decide), g2 54 (by decide) (by decide)]
  have t56 : t 56 = s8 56 := by rw [j2 56 (by decide), g2 56 (by decide) (by decide)]
  have f0 : ∀ r, 0 ≤ r → r < 6 → ct t r 0 p = ct s11 r 0 p := fun r a b => j3 r 0 p a b (by decide) (by decide) hp (by omega) (Or.inl rfl)
  have t58p : t 58 p = first (ct t) p := by
    rw [t58, g6]
    exact (first_congr f0).symm
  refine ⟨j1, at', fun q a b => ?_⟩
  by_cases qp : q = p
  · subst qp
    refine ⟨fun r c d i e f => ?_, t58p, by rw [t54, r54, ui_s], by rw [t56, r56, ui_s]⟩
    rw [cg_s c d] at f
    have f : i ≤ σ 5 r := f
    by_cases i0 : i = 0
    · subst i0
      rw [f0 r c d]
      refine (isl r c d).2 (ct t) (fun x g h => ?_)
      exact j3 r 1 x c d (by decide) (by decide) (by omega) (by omega) (Or.inr (Or.inl (by omega)))
    · rw [j4 r c d i (by omega) f, rst_lnk (by rw [cgt]; exact hW) j1 ⟨c, d⟩ (by omega) (by rw [at' 5 (by decide) (by decide) (by decide) (by decide)]; exact f) hp (by rw [at' 1 (by decide) (by decide) (by decide) (by decide)]; exact hpl) (by rw [cgt, t54, r54, ui_s]) (by rw [cgt, t56, r56, ui_s]) t58p, cgt]
  · obtain ⟨k1, k2, k3, k4⟩ := i3 q (by omega) b
    have hB := (BD _ q (Nat.le_refl _) (by omega) b).1
    refine ⟨goodAt_congr hW (by omega) b (fun r i x c d e f g h => ctq r i x c d e f (by omega) h) hB k1, ?_, by rw [t54, r54, ui_n _ _ qp]; exact k3, by rw [t56, r56, ui_n _ _ qp]; exact k4⟩
    rw [t58, g3 q qp, r8 58 (by decide) (by decide), k2]
    exact (first_congr (fun r c d => ctq r 0 q c d (by decide) (by decide) (by omega) b)).symm
theorem l_X2_update_8 (σ : St) (hW : gWF (cg σ 1)) (Q : St → Prop) (hQ : ∀ t, UI σ (-1) t → Q t) : ∀ (n : Nat) (p : Int) (s : St), (p + 1).toNat < n → -1 ≤ p → p ≤ σ 1 4 → UI σ p s → L_X2_update_8 Q n p s := by
  obtain ⟨⟨t0, t1⟩, hT, hR⟩ := cgW hW
  intro n
  induction n with
  | zero => intro p s hn; exact absurd hn (Nat.not_lt_zero _)
  | succ n ih =>
    intro p s hn h0 hl hI
    refine ⟨⟨by omega, by omega⟩, fun h => hQ s ?_, fun h => ?_⟩
    · rw [show p = -1 by omega] at hI
      exact hI
    · obtain ⟨i1, i2, i3⟩ := id hI
      have s1 : s 1 = σ 1 := i2 1 (by decide) (by decide) (by decide) (by decide)
      have s3 : s 3 = σ 3 := i2 3 (by decide) (by decide) (by decide) (by decide)
      refine ⟨⟨by omega, by omega, by rw [s1]; exact t0, by rw [s1]; exact t1, i1, fun a => ?_⟩, fun s8 e8 => ?_⟩
      · rw [s1] at a
        rw [s3]
        have := hT p (by omega) a
        exact ⟨by omega, by omega⟩
      · have u8 := (UI_step (s11 := s) (t := s) (by omega) hl hW hI e8).1
        have cg8 : cg s8 1 = cg σ 1 := cg_congr (fun q a b => by rw [u8.2.1 q (by omega) (by omega)]; exact i2 q (by omega) (by omega) (by omega) (by omega))
        refine ⟨⟨by omega, by omega, u8.1, by rw [cg8]; exact hW⟩, fun s11 hpost => ?_⟩
        obtain ⟨u11, une, -⟩ := (UI_step (s11 := s11) (t := s) (by omega) hl hW hI e8).2 hpost
        refine ⟨7, l_X2_update_24 σ p s11 ⟨by omega, by omega⟩ hW u11 (fun f a b => ?_) Q _ (fun t hJ => ?_) 7 0 s11 (by decide) (by decide) (by decide) ⟨hpost.1, fun _ _ => rfl, fun _ _ _ _ _ _ _ _ _ _ => rfl, fun r a b => absurd a (by omega)⟩⟩
        · rcases une f a b with z | z <;> omega
        · exact ih (p + (-1)) t (by omega) (by omega) (by omega) (((UI_step (s11 := s11) (t := t) (by omega) hl hW hI e8).2 hpost).2.2 hJ)
theorem v_X2_update (σ : St) (hp : pre_X2_update σ) : V_X2_update σ (post_X2_update σ) := by
  obtain ⟨hM, hW⟩ := hp
  obtain ⟨⟨t0, t1⟩, hT, hR⟩ := cgW hW
  refine ⟨trivial, fun r3 e3 => ?_⟩
  have e3 : r3 = σ 1 4 := e3
  refine ⟨(r3 + 1).toNat + 1, l_X2_update_8 σ hW _ (fun t hI => ?_) _ r3 σ (by omega) (by omega) (by omega) ⟨hM, fun _ _ _ _ _ => rfl, fun q a b => by omega⟩⟩
  obtain ⟨i1, i2, i3⟩ := hI
  exact ⟨i1, i2, fun q a b => (i3 q (by omega) b).1, fun q a b => (i3 q (by omega) b).2⟩
