theorem pig : ∀ (n m : Nat) (a b : Nat → Int), (∀ i j, i < m → j < m → a i = a j → i = j) → (∀ i, i < m → ∃ j, j < n ∧ a i = b j) → m ≤ n := by
  intro n
  induction n with
  | zero =>
    intro m a b hi hx
    rcases Nat.eq_zero_or_pos m with h | h
    · omega
    · obtain ⟨j, hj, -⟩ := hx 0 h
      omega
  | succ n ih =>
    intro m a b hi hx
    by_cases c : ∃ i, i < m ∧ a i = b n
    · obtain ⟨i0, h0, e0⟩ := c
      have := ih (m - 1) (fun i => if i = i0 then a (m - 1) else a i) b (fun i j x y e => ?_) (fun i x => ?_)
      · omega
      · try dsimp only at e
        by_cases p : i = i0
        · by_cases q : j = i0
          · omega
          · rw [if_pos p, if_neg q] at e
            have := hi _ _ (by omega) (by omega) e
            omega
        · by_cases q : j = i0
          · rw [if_neg p, if_pos q] at e
            have := hi _ _ (by omega) (by omega) e
            omega
          · rw [if_neg p, if_neg q] at e
            exact hi _ _ (by omega) (by omega) e
      · try dsimp only
        by_cases p : i = i0
        · rw [if_pos p]
          obtain ⟨j, hj, e⟩ := hx (m - 1) (by omega)
          by_cases q : j = n
          · exfalso
            have := hi _ _ (by omega) h0 ((e.trans (by rw [q])).trans e0.symm)
            omega
          · exact ⟨j, by omega, e⟩
        · rw [if_neg p]
          obtain ⟨j, hj, e⟩ := hx i (by omega)
          by_cases q : j = n
          · exfalso
            have := hi _ _ (by omega) h0 ((e.trans (by rw [q])).trans e0.symm)
            omega
          · exact ⟨j, by omega, e⟩
    · have := ih m a b hi (fun i x => ?_)
      · omega
      · obtain ⟨j, hj, e⟩ := hx i x
        by_cases q : j = n
        · exact absurd ⟨i, x, by rw [e, q]⟩ c
        · exact ⟨j, by omega, e⟩
theorem PO_inj {g : Gr} {T : Tb} {σ : St} (h : PO g T σ) {i j : Int} (hi : 0 ≤ i ∧ i < σ 61 11) (hj : 0 ≤ j ∧ j < σ 61 11) (e : σ 65 i = σ 65 j) : i = j := by
  obtain ⟨h1, h2, h3, -⟩ := h
  rcases (show i < j ∨ i = j ∨ j < i by omega) with c | c | c
  · have := (h3 i j hi.1 c hj.2).1
    omega
  · exact c
  · have := (h3 j i hj.1 c hi.2).1
    omega
theorem FB_map {g : Gr} {T : Tb} {σ : St} {fr fs fp : Int → Int} {m : Int} (h : PO g T σ) (hF : FB g T fr fs fp m) : ∀ (n : Nat) (f : Int), f.toNat < n → 0 ≤ f → f < m → ∃ j, (0 ≤ j ∧ j < σ 61 11) ∧ σ 65 j = fs f ∧ σ 63 j = fr f ∧ (fp f = -1 → σ 69 j = -1) ∧ (fp f ≠ -1 → (0 ≤ σ 69 j ∧ σ 69 j < j) ∧ σ 65 (σ 69 j) = fs (fp f)) := by
  obtain ⟨h1, h2, h3, h4, h5, h6⟩ := h
  intro n
  induction n with
  | zero => intro f hn; exact absurd hn (Nat.not_lt_zero _)
  | succ n ih =>
    intro f hn h0 hm
    obtain ⟨a1, a2, a3, a4⟩ := hF.1 f h0 hm
    rcases a4 with ⟨b1, b2⟩ | ⟨b1, b2⟩
    · obtain ⟨j, j1, j2, j3, j4⟩ := h4 _ _ b2
      exact ⟨j, j1, j2, j3, fun _ => j4, fun z => absurd b1 z⟩
    · obtain ⟨j, j1, j2, j3, j4⟩ := ih (fp f) (by omega) b1.1 (by omega)
      rw [← j2, ← j3] at b2
      obtain ⟨i, i1, i2, i3, i4⟩ := h5 j j1.1 j1.2 _ _ b2
      refine ⟨i, i1, i2, i3, fun z => by omega, fun _ => ?_⟩
      obtain ⟨v1, v2, v3, v4, v5, v6, v7⟩ := h2 i i1.1 i1.2
      rcases v5 with ⟨w, -⟩ | ⟨w, -⟩
      · omega
      · exact ⟨w, by rw [i4, j2]⟩
theorem FB_inj {g : Gr} {T : Tb} {σ : St} {fr fs fp : Int → Int} {m : Int} (h : PO g T σ) (hF : FB g T fr fs fp m) : ∀ (n : Nat) (f1 f2 : Int), (f1 + f2).toNat < n → 0 ≤ f1 → f1 < m → 0 ≤ f2 → f2 < m → fs f1 = fs f2 → f1 = f2 := by
  intro n
  induction n with
  | zero => intro f1 f2 hn; exact absurd hn (Nat.not_lt_zero _)
  | succ n ih =>
    intro f1 f2 hn a1 a2 b1 b2 e
    obtain ⟨j, j1, j2, j3, j4, j5⟩ := FB_map h hF _ f1 (Nat.lt_succ_self _) a1 a2
    obtain ⟨i, i1, i2, i3, i4, i5⟩ := FB_map h hF _ f2 (Nat.lt_succ_self _) b1 b2
    have ij : i = j := PO_inj h i1 j1 (by rw [i2, j2, e])
    subst ij
    have pe : fp f1 = fp f2 := by
      have c1 := (hF.1 f1 a1 a2).2.2.2
      have c2 := (hF.1 f2 b1 b2).2.2.2
      by_cases z1 : fp f1 = -1
      · by_cases z2 : fp f2 = -1
        · omega
        · have := j4 z1
          have := (i5 z2).1
          omega
      · by_cases z2 : fp f2 = -1
        · have := i4 z2
          have := (j5 z1).1
          omega
        · have d1 := (c1.resolve_left (fun z => z1 z.1)).1
          have d2 := (c2.resolve_left (fun z => z2 z.1)).1
          exact ih (fp f1) (fp f2) (by omega) d1.1 (by omega) d2.1 (by omega) (by rw [← (j5 z1).2, ← (i5 z2).2])
    rcases (show f1 < f2 ∨ f1 = f2 ∨ f2 < f1 by omega) with c | c | c
    · have := hF.2 f1 f2 a1 c b2 pe
      omega
    · exact c
    · have := hF.2 f2 f1 b1 c a2 pe.symm
      omega
theorem FB_le {g : Gr} {T : Tb} {σ : St} {fr fs fp : Int → Int} {m : Int} (h : PO g T σ) (hF : FB g T fr fs fp m) : m ≤ σ 61 11 := by
  have := pig (σ 61 11).toNat m.toNat (fun i => fs i) (fun j => σ 65 j) (fun i j a b e => ?_) (fun i a => ?_)
  · have := h.1.1
    omega
  · have := FB_inj h hF _ (i : Int) (j : Int) (Nat.lt_succ_self _) (by omega) (by omega) (by omega) (by omega) e
    omega
  · obtain ⟨j, j1, j2, -⟩ := FB_map h hF _ (i : Int) (Nat.lt_succ_self _) (by omega) (by omega)
    exact ⟨j.toNat, by omega, by
      show fs i = σ 65 ((j.toNat : Nat) : Int)
      rw [Int.toNat_of_nonneg j1.1, j2]⟩
theorem FB_add {g : Gr} {T : Tb} {fr fs fp : Int → Int} {m k q f : Int} (hm : 0 ≤ m) (hF : FB g T fr fs fp m) (hk : 0 ≤ k ∧ k < 6) (hq : 0 ≤ q ∧ q < gl g) (hT : T k 0 q ≠ -1) (hp : (f = -1 ∧ To g T k q) ∨ ((0 ≤ f ∧ f < m) ∧ Ch g T (fr f) (fs f) k q)) (hl : ∀ f1, 0 ≤ f1 → f1 < m → fp f1 = f → fs f1 < q) : FB g T (ui fr m k) (ui fs m q) (ui fp m f) (m + 1) := by
  have low : ∀ (a : Int → Int) (v j : Int), j < m → ui a m v j = a j := fun a v j h => ui_n _ _ (by omega)
  refine ⟨fun f' a b => ?_, fun f1 f2 a b c e => ?_⟩
  · by_cases z : f' = m
    · subst z
      rw [ui_s, ui_s, ui_s]
      refine ⟨hk, hq, hT, ?_⟩
      rcases hp with w | ⟨w, w2⟩
      · exact Or.inl w
      · refine Or.inr ⟨w, ?_⟩
        rw [low _ _ _ w.2, low _ _ _ w.2]
        exact w2
    · have b' : f' < m := by omega
      obtain ⟨a1, a2, a3, a4⟩ := hF.1 f' a b'
      rw [low _ _ _ b', low _ _ _ b', low _ _ _ b']
      refine ⟨a1, a2, a3, ?_⟩
      rcases a4 with w | ⟨w, w2⟩
      · exact Or.inl w
      · refine Or.inr ⟨w, ?_⟩
        rw [low _ _ _ (by omega), low _ _ _ (by omega)]
        exact w2
  · by_cases z : f2 = m
    · subst z
      rw [low _ _ _ b, ui_s] at e
      rw [low _ _ _ b, ui_s]
      exact hl f1 a b e
    · have c' : f2 < m := by omega
      rw [low _ _ _ (show f1 < m by omega), low _ _ _ c'] at e
      rw [low _ _ _ (show f1 < m by omega), low _ _ _ c']
      exact hF.2 f1 f2 a b c' e
/-- a node's children, appended one by one -/
theorem FB_walk {g : Gr} {T : Tb} (hW : gWF g) (hG : Good g T) {fr fs fp : Int → Int} {m f : Int} (hm : 0 ≤ m) (hF : FB g T fr fs fp m) (hf : 0 ≤ f ∧ f < m) (hn : ∀ f1, 0 ≤ f1 → f1 < m → fp f1 ≠ f) : ∀ K : Nat,
    FB g T (xr g T (fr f) (0, fs f) fr m (emc g T (fr f)) K) (xr g T (fr f) (0, fs f) fs m (fun y => y.2) K) (xr g T (fr f) (0, fs f) fp m (fun _ => f) K) (m + csum g T (fr f) (0, fs f) K) ∧
    (∀ f1, 0 ≤ f1 → f1 < m + csum g T (fr f) (0, fs f) K → xr g T (fr f) (0, fs f) fp m (fun _ => f) K f1 = f → xr g T (fr f) (0, fs f) fs m (fun y => y.2) K f1 < (tr g T (fr f) (0, fs f) K).2) ∧
    (∀ j, j < K → emc g T (fr f) (tr g T (fr f) (0, fs f) j) ≠ -1 → ∃ f', (m ≤ f' ∧ f' < m + csum g T (fr f) (0, fs f) K) ∧ xr g T (fr f) (0, fs f) fs m (fun y => y.2) K f' = (tr g T (fr f) (0, fs f) j).2 ∧ xr g T (fr f) (0, fs f) fr m (emc g T (fr f)) K f' = emc g T (fr f) (tr g T (fr f) (0, fs f) j) ∧ xr g T (fr f) (0, fs f) fp m (fun _ => f) K f' = f) ∧
    (∀ f1, 0 ≤ f1 → f1 < m + csum g T (fr f) (0, fs f) K → f1 < m ∨ xr g T (fr f) (0, fs f) fp m (fun _ => f) K f1 = f) := by
  obtain ⟨r1, s1, hne, -⟩ := hF.1 f hf.1 hf.2
  have hs : 0 ≤ fs f ∧ fs f ≤ gl g := ⟨s1.1, by omega⟩
  intro K
  induction K with
  | zero =>
    refine ⟨?_, fun f1 a b c => ?_, fun j hj => absurd hj (Nat.not_lt_zero _), fun f1 a b => Or.inl ?_⟩
    · show FB g T fr fs fp (m + 0)
      rw [Int.add_zero]
      exact hF
    · have b : f1 < m + 0 := b
      exact absurd c (hn f1 a (by omega))
    · have b : f1 < m + 0 := b
      omega
  | succ K ih =>
    obtain ⟨i1, i2, i3, i4⟩ := ih
    have c0 := (csum_mono g T (fr f) (0, fs f) K).1
    have mono := tr_mono hW hG r1 hs rfl hne K 1
    have ex : ∀ a val, xr g T (fr f) (0, fs f) a m val (K + 1) = if emc g T (fr f) (tr g T (fr f) (0, fs f) K) = -1 then xr g T (fr f) (0, fs f) a m val K else ui (xr g T (fr f) (0, fs f) a m val K) (m + csum g T (fr f) (0, fs f) K) (val (tr g T (fr f) (0, fs f) K)) := fun a val => rfl
    have ec : csum g T (fr f) (0, fs f) (K + 1) = csum g T (fr f) (0, fs f) K + if emc g T (fr f) (tr g T (fr f) (0, fs f) K) = -1 then 0 else 1 := rfl
    rw [ex, ex, ex, ec]
    by_cases c : emc g T (fr f) (tr g T (fr f) (0, fs f) K) = -1
    · rw [if_pos c, if_pos c, if_pos c, if_pos c, Int.add_zero]
      refine ⟨i1, fun f1 a b d => by have := i2 f1 a b d; omega, fun j hj he => ?_, i4⟩
      by_cases z : j = K
      · subst z; exact absurd c he
      · exact i3 j (by omega) he
    · rw [if_neg c, if_neg c, if_neg c, if_neg c, ← Int.add_assoc]
      have ca := ch_at hW hG r1 hs rfl hne c
      have tk := tr_ok hW hG r1 hs rfl hne K
      have lowf : ∀ (a : Int → Int) (v : Int) (j : Int), j < m + csum g T (fr f) (0, fs f) K → ui a (m + csum g T (fr f) (0, fs f) K) v j = a j := fun a v j h => ui_n _ _ (by omega)
      refine ⟨FB_add (by omega) i1 ⟨ca.1, ca.2.1⟩ ⟨by omega, by omega⟩ (by rw [ca.2.2.1]; omega) (Or.inr ⟨by omega, ?_⟩) i2, fun f1 a b d => ?_, fun j hj he => ?_, fun f1 a b => ?_⟩
      · rw [xr_low _ _ _ _ _ _ _ hf.2, xr_low _ _ _ _ _ _ _ hf.2]
        exact ⟨c, K, rfl, rfl⟩
      · by_cases z : f1 = m + csum g T (fr f) (0, fs f) K
        · subst z
          rw [ui_s]
          exact ca.2.2.2.1
        · rw [lowf _ _ _ (by omega)] at d
          rw [lowf _ _ _ (by omega)]
          have := i2 f1 a (by omega) d
          omega
      · by_cases z : j = K
        · subst z
          exact ⟨m + csum g T (fr f) (0, fs f) j, by omega, by rw [ui_s], by rw [ui_s], by rw [ui_s]⟩
        · obtain ⟨f', f1, f2, f3, f4⟩ := i3 j (by omega) he
          refine ⟨f', by omega, ?_, ?_, ?_⟩
          · rw [lowf _ _ _ f1.2]; exact f2
          · rw [lowf _ _ _ f1.2]; exact f3
          · rw [lowf _ _ _ f1.2]; exact f4
      · by_cases z : f1 = m + csum g T (fr f) (0, fs f) K
        · subst z
          rw [ui_s]
          exact Or.inr rfl
        · rw [lowf _ _ _ (by omega)]
          exact i4 f1 a (by omega)
