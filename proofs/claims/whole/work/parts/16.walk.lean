theorem runE_b {g : Gr} {lo hi p : Int} (h1 : p ≤ gl g) : runE g lo hi p = -1 ∨ (p < runE g lo hi p ∧ runE g lo hi p ≤ gl g) := by
  unfold runE
  by_cases h : p < RE g lo hi p
  · rw [if_pos h]
    exact Or.inr ⟨h, RE_le g lo hi _ p rfl h1⟩
  · rw [if_neg h]
    exact Or.inl rfl
theorem eE_b {g : Gr} {T : Tb} {e p : Int} (hp : p ≤ gl g) (hT : ∀ r, 0 ≤ r → r < 6 → T r 0 p = -1 ∨ (p < T r 0 p ∧ T r 0 p ≤ gl g)) : eE g T e p = -1 ∨ (p < eE g T e p ∧ eE g T e p ≤ gl g) := by
  unfold eE
  by_cases a : 65 ≤ e ∧ e ≤ 70
  · rw [if_pos a]
    exact hT _ (by omega) (by omega)
  · rw [if_neg a]
    by_cases b : e = 35
    · rw [if_pos b]
      exact runE_b hp
    · rw [if_neg b]
      by_cases c : e = 64
      · rw [if_pos c]
        exact runE_b hp
      · rw [if_neg c]
        by_cases d : p < gl g ∧ gt g p = e
        · rw [if_pos d]
          exact Or.inr ⟨by omega, by omega⟩
        · rw [if_neg d]
          exact Or.inl rfl
theorem eE_nr {g : Gr} {T : Tb} {e p : Int} (hp : p ≤ gl g) (he : ¬ (65 ≤ e ∧ e ≤ 70)) : eE g T e p = -1 ∨ (p < eE g T e p ∧ eE g T e p ≤ gl g) := by
  have h : eE g T e p = eE g (fun _ _ _ => -1) e p := by
    unfold eE
    rw [if_neg he, if_neg he]
  rw [h]
  exact eE_b hp (fun _ _ _ => Or.inl rfl)
/-- ends lie behind their starts, as far down as the table is good -/
theorem bnd {g : Gr} {T : Tb} (hW : gWF g) {p : Int} (hp : -1 ≤ p) (hG : ∀ q, p < q → q ≤ gl g → GoodAt g T q) : ∀ (n : Nat) (q : Int), (gl g - q).toNat ≤ n → p < q → q ≤ gl g → (∀ r, 0 ≤ r → r < 6 → T r 0 q = -1 ∨ (q < T r 0 q ∧ T r 0 q ≤ gl g)) ∧ (∀ r, 0 ≤ r → r < 6 → ∀ i, 0 ≤ i → i ≤ gs g r → T r i q = -1 ∨ (q ≤ T r i q ∧ T r i q ≤ gl g)) := by
  obtain ⟨hL, ht, hR⟩ := hW
  intro n
  induction n with
  | zero =>
    intro q hn hq hl
    have hq : q = gl g := by omega
    have hA : ∀ r, 0 ≤ r → r < 6 → T r 0 q = -1 := by
      intro r a b
      obtain ⟨⟨z0, z1⟩, z2, z3, z4⟩ := hR r a b
      rw [hG q (by omega) hl r a b 0 (by decide) z0]
      unfold rhs
      by_cases c : (0 : Int) = gs g r
      · rw [if_pos c, if_pos rfl]
      · obtain ⟨f1, f2⟩ := z4 (by omega)
        rw [if_neg c, if_neg f1]
        rcases eE_nr (g := g) (T := T) hl f2 with d | d
        · rw [if_pos d]
        · omega
    refine ⟨fun r a b => Or.inl (hA r a b), fun r a b => ?_⟩
    obtain ⟨⟨z0, z1⟩, z2, z3, z4⟩ := hR r a b
    have key : ∀ (m : Nat) (i : Int), (gs g r - i).toNat = m → 0 ≤ i → i ≤ gs g r → T r i q = -1 ∨ (q ≤ T r i q ∧ T r i q ≤ gl g) := by
      intro m
      induction m with
      | zero =>
        intro i hm h0 hi
        have hi : i = gs g r := by omega
        rw [hG q (by omega) hl r a b i h0 (by omega)]
        unfold rhs
        rw [if_pos hi]
        by_cases c : i = 0
        · rw [if_pos c]; exact Or.inl rfl
        · rw [if_neg c]; exact Or.inr ⟨by omega, by omega⟩
      | succ m ih =>
        intro i hm h0 hi
        rw [hG q (by omega) hl r a b i h0 hi]
        unfold rhs
        rw [if_neg (by omega)]
        by_cases w : ge g r i = 126
        · rw [if_pos w]
          by_cases x : T r (i + 1) q ≠ -1
          · rw [if_pos x]
            exact ih (i + 1) (by omega) (by omega) (by omega)
          · rw [if_neg x]
            rcases first_rng T q with y | ⟨y1, y2, y3⟩
            · have yn : ¬ first T q ≠ -1 := fun z => z y
              rw [if_neg yn, if_pos (Or.inl hq)]
              exact Or.inl rfl
            · exact absurd (hA _ y1 y2) y3
        · rw [if_neg w]
          rcases eE_b (g := g) (T := T) (e := ge g r i) hl (fun k c d => Or.inl (hA k c d)) with d | d
          · rw [if_pos d]; exact Or.inl rfl
          · omega
    exact fun i c d => key _ i rfl c d
  | succ n ih =>
    intro q hn hq hl
    have hA : ∀ r, 0 ≤ r → r < 6 → T r 0 q = -1 ∨ (q < T r 0 q ∧ T r 0 q ≤ gl g) := by
      intro r a b
      obtain ⟨⟨z0, z1⟩, z2, z3, z4⟩ := hR r a b
      rw [hG q (by omega) hl r a b 0 (by decide) z0]
      unfold rhs
      by_cases c : (0 : Int) = gs g r
      · rw [if_pos c, if_pos rfl]; exact Or.inl rfl
      · obtain ⟨f1, f2⟩ := z4 (by omega)
        rw [if_neg c, if_neg f1]
        rcases eE_nr (g := g) (T := T) hl f2 with d | d
        · rw [if_pos d]; exact Or.inl rfl
        · have un : ¬ eE g T (ge g r 0) q = -1 := by omega
          rw [if_neg un]
          rcases (ih _ (by omega) (by omega) d.2).2 r a b (0 + 1) (by omega) (by omega) with x | x
          · exact Or.inl x
          · exact Or.inr ⟨by omega, x.2⟩
    refine ⟨hA, fun r a b => ?_⟩
    obtain ⟨⟨z0, z1⟩, z2, z3, z4⟩ := hR r a b
    have key : ∀ (m : Nat) (i : Int), (gs g r - i).toNat = m → 0 ≤ i → i ≤ gs g r → T r i q = -1 ∨ (q ≤ T r i q ∧ T r i q ≤ gl g) := by
      intro m
      induction m with
      | zero =>
        intro i hm h0 hi
        have hi : i = gs g r := by omega
        rw [hG q (by omega) hl r a b i h0 (by omega)]
        unfold rhs
        rw [if_pos hi]
        by_cases c : i = 0
        · rw [if_pos c]; exact Or.inl rfl
        · rw [if_neg c]; exact Or.inr ⟨by omega, by omega⟩
      | succ m ih2 =>
        intro i hm h0 hi
        rw [hG q (by omega) hl r a b i h0 hi]
        unfold rhs
        rw [if_neg (by omega)]
        by_cases w : ge g r i = 126
        · rw [if_pos w]
          by_cases x : T r (i + 1) q ≠ -1
          · rw [if_pos x]
            exact ih2 (i + 1) (by omega) (by omega) (by omega)
          · rw [if_neg x]
            rcases first_rng T q with y | ⟨y1, y2, y3⟩
            · have yn : ¬ first T q ≠ -1 := fun z => z y
              rw [if_neg yn]
              by_cases v : q = gl g ∨ gt g q = gp g r
              · rw [if_pos v]; exact Or.inl rfl
              · rw [if_neg v]
                rcases (ih (q + 1) (by omega) (by omega) (by omega)).2 r a b i h0 hi with u | u
                · exact Or.inl u
                · exact Or.inr ⟨by omega, u.2⟩
            · have yn : first T q ≠ -1 := by omega
              rw [if_pos yn]
              rcases hA _ y1 y2 with u | u
              · exact absurd u y3
              · rcases (ih _ (by omega) (by omega) u.2).2 r a b i h0 hi with v | v
                · exact Or.inl v
                · exact Or.inr ⟨by omega, v.2⟩
        · rw [if_neg w]
          rcases eE_b (g := g) (T := T) (e := ge g r i) hl hA with d | d
          · rw [if_pos d]; exact Or.inl rfl
          · have un : ¬ eE g T (ge g r i) q = -1 := by omega
            rw [if_neg un]
            rcases (ih _ (by omega) (by omega) d.2).2 r a b (i + 1) (by omega) (by omega) with u | u
            · exact Or.inl u
            · exact Or.inr ⟨by omega, u.2⟩
    exact fun i c d => key _ i rfl c d
theorem first_congr {T T' : Tb} {q : Int} (h : ∀ r, 0 ≤ r → r < 6 → T' r 0 q = T r 0 q) : first T' q = first T q := by
  unfold first
  rw [h 0 (by decide) (by decide), h 1 (by decide) (by decide), h 2 (by decide) (by decide), h 3 (by decide) (by decide), h 4 (by decide) (by decide), h 5 (by decide) (by decide)]
theorem eE_congr {g : Gr} {T T' : Tb} {e q : Int} (h : ∀ r, 0 ≤ r → r < 6 → T' r 0 q = T r 0 q) : eE g T' e q = eE g T e q := by
  unfold eE
  by_cases a : 65 ≤ e ∧ e ≤ 70
  · rw [if_pos a, if_pos a]
    exact h _ (by omega) (by omega)
  · rw [if_neg a, if_neg a]
theorem goodAt_congr {g : Gr} {T T' : Tb} (hW : gWF g) {q : Int} (hq0 : 0 ≤ q) (hq : q ≤ gl g) (hA : ∀ r i x, 0 ≤ r → r < 6 → 0 ≤ i → i ≤ 8 → q ≤ x → x ≤ gl g → T' r i x = T r i x) (hB : ∀ r, 0 ≤ r → r < 6 → T r 0 q = -1 ∨ (q < T r 0 q ∧ T r 0 q ≤ gl g)) (h : GoodAt g T q) : GoodAt g T' q := by
  obtain ⟨hL, ht, hR⟩ := hW
  intro r a b i c d
  obtain ⟨⟨z0, z1⟩, z2, z3, z4⟩ := hR r a b
  have h0 : ∀ r, 0 ≤ r → r < 6 → T' r 0 q = T r 0 q := fun r a b => hA r 0 q a b (by decide) (by decide) (Int.le_refl q) hq
  rw [hA r i q a b c (by omega) (Int.le_refl q) hq, h r a b i c d]
  unfold rhs
  by_cases e : i = gs g r
  · rw [if_pos e, if_pos e]
  · rw [if_neg e, if_neg e]
    by_cases w : ge g r i = 126
    · rw [if_pos w, if_pos w, hA r (i + 1) q a b (by omega) (by omega) (Int.le_refl q) hq, first_congr h0]
      by_cases x : T r (i + 1) q ≠ -1
      · rw [if_pos x, if_pos x]
      · rw [if_neg x, if_neg x]
        rcases first_rng T q with y | ⟨y1, y2, y3⟩
        · have yn : ¬ first T q ≠ -1 := fun z => z y
          rw [if_neg yn, if_neg yn]
          by_cases v : q = gl g ∨ gt g q = gp g r
          · rw [if_pos v, if_pos v]
          · rw [if_neg v, if_neg v, hA r i (q + 1) a b c (by omega) (by omega) (by omega)]
        · have yn : first T q ≠ -1 := by omega
          rw [if_pos yn, if_pos yn, h0 _ y1 y2]
          rcases hB _ y1 y2 with u | u
          · exact absurd u y3
          · rw [hA r i _ a b c (by omega) (by omega) u.2]
    · rw [if_neg w, if_neg w, eE_congr h0]
      rcases eE_b (g := g) (T := T) (e := ge g r i) hq hB with u | u
      · rw [if_pos u, if_pos u]
      · have un : ¬ eE g T (ge g r i) q = -1 := by omega
        rw [if_neg un, if_neg un, hA r (i + 1) _ a b (by omega) (by omega) (by omega) u.2]
/-- two good tables agree where they mean something -/
theorem good_uniq {g : Gr} {T T' : Tb} (hW : gWF g) (h : Good g T) (h' : Good g T') : ∀ (n : Nat) (p : Int), (gl g - p).toNat ≤ n → 0 ≤ p → p ≤ gl g → ∀ r, 0 ≤ r → r < 6 → ∀ i, 0 ≤ i → i ≤ gs g r → T' r i p = T r i p := by
  obtain ⟨hL, ht, hR⟩ := id hW
  have BD := bnd hW (p := -1) (by decide) (fun q a b => h q (by omega) b)
  have step : ∀ p, 0 ≤ p → p ≤ gl g → (∀ x, p < x → x ≤ gl g → ∀ r, 0 ≤ r → r < 6 → ∀ i, 0 ≤ i → i ≤ gs g r → T' r i x = T r i x) → ∀ r, 0 ≤ r → r < 6 → ∀ i, 0 ≤ i → i ≤ gs g r → T' r i p = T r i p := by
    intro p h0 hl hx
    have hB := (BD _ p (Nat.le_refl _) (by omega) hl).1
    have z0 : ∀ r, 0 ≤ r → r < 6 → T' r 0 p = T r 0 p := by
      intro r a b
      obtain ⟨⟨z0, z1⟩, z2, z3, z4⟩ := hR r a b
      rw [h p h0 hl r a b 0 (by decide) z0, h' p h0 hl r a b 0 (by decide) z0]
      unfold rhs
      by_cases c : (0 : Int) = gs g r
      · rw [if_pos c, if_pos c]
      · obtain ⟨f1, f2⟩ := z4 (by omega)
        have ind : eE g T' (ge g r 0) p = eE g T (ge g r 0) p := by
          unfold eE
          rw [if_neg f2, if_neg f2]
        rw [if_neg c, if_neg c, if_neg f1, if_neg f1, ind]
        rcases eE_nr (g := g) (T := T) (e := ge g r 0) hl f2 with d | d
        · rw [if_pos d, if_pos d]
        · have un : ¬ eE g T (ge g r 0) p = -1 := by omega
          rw [if_neg un, if_neg un]
          exact hx _ d.1 d.2 r a b _ (by omega) (by omega)
    intro r a b
    obtain ⟨⟨y0, y1⟩, y2, y3, y4⟩ := hR r a b
    have key : ∀ (m : Nat) (i : Int), (gs g r - i).toNat = m → 0 ≤ i → i ≤ gs g r → T' r i p = T r i p := by
      intro m
      induction m with
      | zero =>
        intro i hm c d
        rw [h p h0 hl r a b i c d, h' p h0 hl r a b i c d]
        unfold rhs
        have e : i = gs g r := by omega
        rw [if_pos e, if_pos e]
      | succ m ih =>
        intro i hm c d
        rw [h p h0 hl r a b i c d, h' p h0 hl r a b i c d]
        unfold rhs
        have e : ¬ i = gs g r := by omega
        rw [if_neg e, if_neg e, first_congr z0, eE_congr z0, ih (i + 1) (by omega) (by omega) (by omega)]
        by_cases w : ge g r i = 126
        · rw [if_pos w, if_pos w]
          by_cases x : T r (i + 1) p ≠ -1
          · rw [if_pos x, if_pos x]
          · rw [if_neg x, if_neg x]
            rcases first_rng T p with y | ⟨u1, u2, u3⟩
            · have yn : ¬ first T p ≠ -1 := fun z => z y
              rw [if_neg yn, if_neg yn]
              by_cases v : p = gl g ∨ gt g p = gp g r
              · rw [if_pos v, if_pos v]
              · rw [if_neg v, if_neg v]
                exact hx (p + 1) (by omega) (by omega) r a b i c d
            · have yn : first T p ≠ -1 := by omega
              rw [if_pos yn, if_pos yn, z0 _ u1 u2]
              rcases hB _ u1 u2 with u | u
              · exact absurd u u3
              · exact hx _ u.1 u.2 r a b i c d
        · rw [if_neg w, if_neg w]
          rcases eE_b (g := g) (T := T) (e := ge g r i) hl hB with u | u
          · rw [if_pos u, if_pos u]
          · have un : ¬ eE g T (ge g r i) p = -1 := by omega
            rw [if_neg un, if_neg un]
            exact hx _ u.1 u.2 r a b _ (by omega) (by omega)
    exact fun i c d => key _ i rfl c d
  intro n
  induction n with
  | zero => intro p hn h0 hl; exact step p h0 hl (fun x a b => by omega)
  | succ n ih => intro p hn h0 hl; exact step p h0 hl (fun x a b => ih x (by omega) (by omega) b)
-- the walk of a node's pattern, as a machine: a state is (element, place)
def nx (g : Gr) (T : Tb) (r : Int) (x : Int × Int) : Int × Int :=
  if gs g r ≤ x.1 then x
  else if ge g r x.1 = 126 then (if T r (x.1 + 1) x.2 ≠ -1 then (x.1 + 1, x.2) else if first T x.2 ≠ -1 then (x.1, T (first T x.2) 0 x.2) else (x.1, x.2 + 1))
  else (x.1 + 1, eE g T (ge g r x.1) x.2)
/-- the rule of the nested island that begins at a state, or -1 -/
def emc (g : Gr) (T : Tb) (r : Int) (x : Int × Int) : Int :=
  if gs g r ≤ x.1 then -1
  else if ge g r x.1 = 126 then (if T r (x.1 + 1) x.2 ≠ -1 then -1 else first T x.2)
  else if 65 ≤ ge g r x.1 ∧ ge g r x.1 ≤ 70 then ge g r x.1 - 65 else -1
/-- 1 if a byte of water is taken at a state -/
def emw (g : Gr) (T : Tb) (r : Int) (x : Int × Int) : Int :=
  if gs g r ≤ x.1 then 0
  else if ge g r x.1 = 126 then (if T r (x.1 + 1) x.2 ≠ -1 then 0 else if first T x.2 ≠ -1 then 0 else 1)
  else 0
def tr (g : Gr) (T : Tb) (r : Int) (x : Int × Int) : Nat → Int × Int
  | 0 => x
  | n + 1 => nx g T r (tr g T r x n)
def wsum (g : Gr) (T : Tb) (r : Int) (x : Int × Int) : Nat → Int
  | 0 => 0
  | n + 1 => wsum g T r x n + emw g T r (tr g T r x n)
def csum (g : Gr) (T : Tb) (r : Int) (x : Int × Int) : Nat → Int
  | 0 => 0
  | n + 1 => csum g T r x n + if emc g T r (tr g T r x n) = -1 then 0 else 1
theorem tr_add (g : Gr) (T : Tb) (r : Int) (x : Int × Int) (n : Nat) : ∀ m, tr g T r x (n + m) = tr g T r (tr g T r x n) m := by
  intro m
  induction m with
  | zero => rfl
  | succ m ih =>
    show nx g T r (tr g T r x (n + m)) = nx g T r (tr g T r (tr g T r x n) m)
    rw [ih]
theorem wsum_add (g : Gr) (T : Tb) (r : Int) (x : Int × Int) (n : Nat) : ∀ m, wsum g T r x (n + m) = wsum g T r x n + wsum g T r (tr g T r x n) m := by
  intro m
  induction m with
  | zero => show wsum g T r x n = wsum g T r x n + 0; omega
  | succ m ih =>
    show wsum g T r x (n + m) + emw g T r (tr g T r x (n + m)) = wsum g T r x n + (wsum g T r (tr g T r x n) m + emw g T r (tr g T r (tr g T r x n) m))
    rw [ih, tr_add]
    omega
theorem csum_add (g : Gr) (T : Tb) (r : Int) (x : Int × Int) (n : Nat) : ∀ m, csum g T r x (n + m) = csum g T r x n + csum g T r (tr g T r x n) m := by
  intro m
  induction m with
  | zero => show csum g T r x n = csum g T r x n + 0; omega
  | succ m ih =>
    show csum g T r x (n + m) + (if emc g T r (tr g T r x (n + m)) = -1 then 0 else 1) = csum g T r x n + (csum g T r (tr g T r x n) m + (if emc g T r (tr g T r (tr g T r x n) m) = -1 then 0 else 1))
    rw [ih, tr_add]
    omega
/-- what one step does, in a pattern whose rest matches -/
theorem nx_ok {g : Gr} {T : Tb} (hW : gWF g) (hG : Good g T) {r e : Int} (hr : 0 ≤ r ∧ r < 6) {x : Int × Int} (hx : 0 ≤ x.1 ∧ x.1 ≤ gs g r) (hp : 0 ≤ x.2 ∧ x.2 ≤ gl g) (he : T r x.1 x.2 = e) (hne : e ≠ -1) :
    (x.2 ≤ e ∧ e ≤ gl g) ∧ (x.1 < gs g r → (0 ≤ (nx g T r x).1 ∧ (nx g T r x).1 ≤ gs g r) ∧ (x.2 ≤ (nx g T r x).2 ∧ (nx g T r x).2 ≤ gl g) ∧ T r (nx g T r x).1 (nx g T r x).2 = e ∧ x.1 + x.2 < (nx g T r x).1 + (nx g T r x).2 ∧ x.1 ≤ (nx g T r x).1 ∧ (nx g T r x).1 ≤ x.1 + 1 ∧
      (emc g T r x ≠ -1 → 0 ≤ emc g T r x ∧ emc g T r x < 6 ∧ T (emc g T r x) 0 x.2 = (nx g T r x).2 ∧ x.2 < (nx g T r x).2) ∧ (x.1 = 0 → emc g T r x = -1 ∧ emw g T r x = 0 ∧ x.2 < (nx g T r x).2 ∧ (nx g T r x).1 = 1)) := by
  obtain ⟨i, p⟩ := x
  dsimp only at hx hp he ⊢
  obtain ⟨hL, ht, hR⟩ := id hW
  obtain ⟨⟨z0, z1⟩, z2, z3, z4⟩ := hR r hr.1 hr.2
  have BD := bnd hW (p := -1) (by decide) (fun q a b => hG q (by omega) b)
  have hB := BD _ p (Nat.le_refl _) (by omega) hp.2
  have h1 := (hB.2 r hr.1 hr.2 i hx.1 hx.2).resolve_left (fun z => hne (he.symm.trans z))
  rw [he] at h1
  refine ⟨h1, fun hi => ?_⟩
  have eq := hG p hp.1 hp.2 r hr.1 hr.2 i hx.1 hx.2
  rw [he] at eq
  unfold rhs at eq
  rw [if_neg (show ¬ i = gs g r by omega)] at eq
  have ni : ¬ gs g r ≤ i := by omega
  unfold nx emc emw
  dsimp only
  rw [if_neg ni, if_neg ni, if_neg ni]
  by_cases w : ge g r i = 126
  · rw [if_pos w] at eq
    have i0 : i ≠ 0 := fun z => by
      subst z
      exact (z4 (by omega)).1 w
    rw [if_pos w, if_pos w, if_pos w]
    by_cases a : T r (i + 1) p ≠ -1
    · rw [if_pos a] at eq
      rw [if_pos a, if_pos a, if_pos a]
      exact ⟨by dsimp only; omega, by dsimp only; omega, eq.symm, by dsimp only; omega, by dsimp only; omega, by dsimp only; omega, fun z => absurd rfl z, fun z => absurd z i0⟩
    · rw [if_neg a] at eq
      rw [if_neg a, if_neg a, if_neg a]
      rcases first_rng T p with f | ⟨f1, f2, f3⟩
      · have fn : ¬ first T p ≠ -1 := fun z => z f
        rw [if_neg fn] at eq
        rw [if_neg fn]
        by_cases v : p = gl g ∨ gt g p = gp g r
        · rw [if_pos v] at eq
          exact absurd eq hne
        · rw [if_neg v] at eq
          exact ⟨by dsimp only; omega, by dsimp only; omega, eq.symm, by dsimp only; omega, by dsimp only; omega, by dsimp only; omega, fun z => absurd f z, fun z => absurd z i0⟩
      · have fn : first T p ≠ -1 := by omega
        rw [if_pos fn] at eq
        rw [if_pos fn]
        have u := (hB.1 _ f1 f2).resolve_left f3
        exact ⟨by dsimp only; omega, by dsimp only; omega, eq.symm, by dsimp only; omega, by dsimp only; omega, by dsimp only; omega, fun _ => ⟨f1, f2, rfl, u.1⟩, fun z => absurd z i0⟩
  · rw [if_neg w] at eq
    rw [if_neg w, if_neg w, if_neg w]
    have nn : ¬ eE g T (ge g r i) p = -1 := fun z => by
      rw [if_pos z] at eq
      exact hne eq
    rw [if_neg nn] at eq
    have u := (eE_b (g := g) (T := T) (e := ge g r i) hp.2 hB.1).resolve_left nn
    refine ⟨by dsimp only; omega, by dsimp only; omega, eq.symm, by dsimp only; omega, by dsimp only; omega, by dsimp only; omega, fun z => ?_, fun z => ?_⟩
    · by_cases c : 65 ≤ ge g r i ∧ ge g r i ≤ 70
      · rw [if_pos c]
        refine ⟨by omega, by omega, ?_, u.1⟩
        show T (ge g r i - 65) 0 p = eE g T (ge g r i) p
        unfold eE
        rw [if_pos c]
      · rw [if_neg c] at z
        exact absurd rfl z
    · subst z
      rw [if_neg (z4 (by omega)).2]
      exact ⟨rfl, rfl, u.1, rfl⟩
/-- the whole walk of a node (r, s) that ends at e -/
theorem tr_ok {g : Gr} {T : Tb} (hW : gWF g) (hG : Good g T) {r s e : Int} (hr : 0 ≤ r ∧ r < 6) (hs : 0 ≤ s ∧ s ≤ gl g) (he : T r 0 s = e) (hne : e ≠ -1) : ∀ n : Nat, (0 ≤ (tr g T r (0, s) n).1 ∧ (tr g T r (0, s) n).1 ≤ gs g r) ∧ (s ≤ (tr g T r (0, s) n).2 ∧ (tr g T r (0, s) n).2 ≤ e ∧ e ≤ gl g) ∧ T r (tr g T r (0, s) n).1 (tr g T r (0, s) n).2 = e ∧ ((tr g T r (0, s) n).1 < gs g r → (n : Int) + s ≤ (tr g T r (0, s) n).1 + (tr g T r (0, s) n).2) := by
  obtain ⟨hL, ht, hR⟩ := id hW
  obtain ⟨⟨z0, z1⟩, z2, z3, z4⟩ := hR r hr.1 hr.2
  intro n
  induction n with
  | zero =>
    have h := nx_ok hW hG hr (x := (0, s)) ⟨by dsimp only; omega, by dsimp only; omega⟩ hs he hne
    exact ⟨⟨by show (0 : Int) ≤ 0; omega, z0⟩, ⟨Int.le_refl s, h.1⟩, he, fun _ => by show (0 : Int) + s ≤ 0 + s; omega⟩
  | succ n ih =>
    obtain ⟨a1, a2, a3, a4⟩ := ih
    have h := nx_ok hW hG hr a1 ⟨by omega, by omega⟩ a3 hne
    by_cases c : (tr g T r (0, s) n).1 < gs g r
    · obtain ⟨b1, b2, b3, b4, b5, b6, b7, b8⟩ := h.2 c
      have h2 := nx_ok hW hG hr b1 ⟨by omega, b2.2⟩ b3 hne
      refine ⟨b1, ⟨by show s ≤ (nx g T r (tr g T r (0, s) n)).2; omega, h2.1⟩, b3, fun _ => ?_⟩
      show ((n + 1 : Nat) : Int) + s ≤ (nx g T r (tr g T r (0, s) n)).1 + (nx g T r (tr g T r (0, s) n)).2
      have := a4 c
      omega
    · have e : nx g T r (tr g T r (0, s) n) = tr g T r (0, s) n := by
        unfold nx
        rw [if_pos (by omega)]
      have e2 : tr g T r (0, s) (n + 1) = tr g T r (0, s) n := e
      rw [e2]
      exact ⟨a1, a2, a3, fun z => absurd z c⟩
/-- the walk halts, at the island's end -/
theorem tr_halt {g : Gr} {T : Tb} (hW : gWF g) (hG : Good g T) {r s e : Int} (hr : 0 ≤ r ∧ r < 6) (hs : 0 ≤ s ∧ s ≤ gl g) (he : T r 0 s = e) (hne : e ≠ -1) {n : Nat} (hn : 109 ≤ n) : tr g T r (0, s) n = (gs g r, e) := by
  obtain ⟨hL, ht, hR⟩ := id hW
  obtain ⟨⟨z0, z1⟩, z2, z3, z4⟩ := hR r hr.1 hr.2
  obtain ⟨a1, a2, a3, a4⟩ := tr_ok hW hG hr hs he hne n
  have c : (tr g T r (0, s) n).1 = gs g r := by
    by_cases c : (tr g T r (0, s) n).1 < gs g r
    · have := a4 c
      omega
    · omega
  have d : T r (tr g T r (0, s) n).1 (tr g T r (0, s) n).2 = rhs g T r (tr g T r (0, s) n).1 (tr g T r (0, s) n).2 := hG _ (by omega) (by omega) r hr.1 hr.2 _ a1.1 a1.2
  rw [a3] at d
  unfold rhs at d
  rw [if_pos c] at d
  by_cases z : (tr g T r (0, s) n).1 = 0
  · rw [if_pos z] at d
    exact absurd d hne
  · rw [if_neg z] at d
    exact Prod.ext c d.symm
theorem nx_fix {g : Gr} {T : Tb} {r : Int} {x : Int × Int} (h : gs g r ≤ x.1) : ∀ n, tr g T r x n = x := by
  intro n
  induction n with
  | zero => rfl
  | succ n ih =>
    show nx g T r (tr g T r x n) = x
    rw [ih]
    unfold nx
    rw [if_pos h]
theorem sum_fix {g : Gr} {T : Tb} {r : Int} {x : Int × Int} (h : gs g r ≤ x.1) : ∀ n, wsum g T r x n = 0 ∧ csum g T r x n = 0 := by
  intro n
  induction n with
  | zero => exact ⟨rfl, rfl⟩
  | succ n ih =>
    refine ⟨?_, ?_⟩
    · show wsum g T r x n + emw g T r (tr g T r x n) = 0
      rw [nx_fix h, ih.1]
      unfold emw
      rw [if_pos h]
      rfl
    · show csum g T r x n + (if emc g T r (tr g T r x n) = -1 then 0 else 1) = 0
      rw [nx_fix h, ih.2]
      unfold emc
      rw [if_pos h, if_pos rfl]
      rfl
/-- sums over a walk that has halted are the same -/
theorem wsum_halt {g : Gr} {T : Tb} {r : Int} {x : Int × Int} {n m : Nat} (hn : gs g r ≤ (tr g T r x n).1) (hm : gs g r ≤ (tr g T r x m).1) : wsum g T r x n = wsum g T r x m := by
  rcases Nat.le_total n m with h | h
  · obtain ⟨d, rfl⟩ := Nat.exists_eq_add_of_le h
    rw [wsum_add, (sum_fix hn d).1]
    omega
  · obtain ⟨d, rfl⟩ := Nat.exists_eq_add_of_le h
    rw [wsum_add, (sum_fix hm d).1]
    omega
/-- (k, q) is an island that a node (r, s) contains directly -/
def Ch (g : Gr) (T : Tb) (r s k q : Int) : Prop := k ≠ -1 ∧ ∃ n, emc g T r (tr g T r (0, s) n) = k ∧ (tr g T r (0, s) n).2 = q
theorem tr_mono {g : Gr} {T : Tb} (hW : gWF g) (hG : Good g T) {r s e : Int} (hr : 0 ≤ r ∧ r < 6) (hs : 0 ≤ s ∧ s ≤ gl g) (he : T r 0 s = e) (hne : e ≠ -1) (n : Nat) : ∀ d, (tr g T r (0, s) n).2 ≤ (tr g T r (0, s) (n + d)).2 := by
  intro d
  induction d with
  | zero => exact Int.le_refl _
  | succ d ih =>
    obtain ⟨a1, a2, a3, a4⟩ := tr_ok hW hG hr hs he hne (n + d)
    by_cases c : (tr g T r (0, s) (n + d)).1 < gs g r
    · have h := ((nx_ok hW hG hr a1 ⟨by omega, by omega⟩ a3 hne).2 c).2.1.1
      exact Int.le_trans ih h
    · have e : tr g T r (0, s) (n + (d + 1)) = tr g T r (0, s) (n + d) := by
        show nx g T r (tr g T r (0, s) (n + d)) = _
        unfold nx
        rw [if_pos (by omega)]
      rw [e]
      exact ih
/-- a nested island at step n: its interval -/
theorem ch_at {g : Gr} {T : Tb} (hW : gWF g) (hG : Good g T) {r s e : Int} (hr : 0 ≤ r ∧ r < 6) (hs : 0 ≤ s ∧ s ≤ gl g) (he : T r 0 s = e) (hne : e ≠ -1) {n : Nat} (hk : emc g T r (tr g T r (0, s) n) ≠ -1) : 0 ≤ emc g T r (tr g T r (0, s) n) ∧ emc g T r (tr g T r (0, s) n) < 6 ∧ T (emc g T r (tr g T r (0, s) n)) 0 (tr g T r (0, s) n).2 = (tr g T r (0, s) (n + 1)).2 ∧ (tr g T r (0, s) n).2 < (tr g T r (0, s) (n + 1)).2 ∧ s < (tr g T r (0, s) n).2 ∧ (tr g T r (0, s) (n + 1)).2 ≤ e ∧ (tr g T r (0, s) n).1 < gs g r := by
  obtain ⟨a1, a2, a3, a4⟩ := tr_ok hW hG hr hs he hne n
  have c : (tr g T r (0, s) n).1 < gs g r := by
    by_cases c : (tr g T r (0, s) n).1 < gs g r
    · exact c
    · exfalso
      apply hk
      unfold emc
      rw [if_pos (by omega)]
  obtain ⟨b1, b2, b3, b4, b5, b6, b7, b8⟩ := (nx_ok hW hG hr a1 ⟨by omega, by omega⟩ a3 hne).2 c
  obtain ⟨d1, d2, d3, d4⟩ := b7 hk
  refine ⟨d1, d2, d3, d4, ?_, ?_, c⟩
  · cases n with
    | zero => exact absurd (b8 rfl).1 hk
    | succ n =>
      have c0 : (0 : Int) < gs g r := by omega
      have h0 := ((nx_ok hW hG hr (x := (0, s)) ⟨by dsimp only; omega, by dsimp only; omega⟩ hs he hne).2 c0).2.2.2.2.2.2.2 rfl
      have h1 := tr_mono hW hG hr hs he hne 1 n
      rw [Nat.add_comm] at h1
      have h2 : (tr g T r (0, s) 1) = nx g T r (0, s) := rfl
      rw [h2] at h1
      have h3 : s < (nx g T r (0, s)).2 := h0.2.2.1
      omega
  · exact (tr_ok hW hG hr hs he hne (n + 1)).2.1.2.1
theorem ch_apart {g : Gr} {T : Tb} (hW : gWF g) (hG : Good g T) {r s e : Int} (hr : 0 ≤ r ∧ r < 6) (hs : 0 ≤ s ∧ s ≤ gl g) (he : T r 0 s = e) (hne : e ≠ -1) {n m : Nat} (h : n < m) (hk : emc g T r (tr g T r (0, s) n) ≠ -1) : (tr g T r (0, s) n).2 < (tr g T r (0, s) (n + 1)).2 ∧ (tr g T r (0, s) (n + 1)).2 ≤ (tr g T r (0, s) m).2 := by
  refine ⟨(ch_at hW hG hr hs he hne hk).2.2.2.1, ?_⟩
  have := tr_mono hW hG hr hs he hne (n + 1) (m - (n + 1))
  rw [show n + 1 + (m - (n + 1)) = m by omega] at this
  exact this
theorem tg_ok {g : Gr} {T : Tb} (hW : gWF g) (hG : Good g T) {r e : Int} {x : Int × Int} (hr : 0 ≤ r ∧ r < 6) (hx : 0 ≤ x.1 ∧ x.1 ≤ gs g r) (hs : 0 ≤ x.2 ∧ x.2 ≤ gl g) (he : T r x.1 x.2 = e) (hne : e ≠ -1) : ∀ n : Nat, (x.1 ≤ (tr g T r x n).1 ∧ (tr g T r x n).1 ≤ gs g r) ∧ (x.2 ≤ (tr g T r x n).2 ∧ (tr g T r x n).2 ≤ e ∧ e ≤ gl g) ∧ T r (tr g T r x n).1 (tr g T r x n).2 = e := by
  intro n
  induction n with
  | zero =>
    have h := nx_ok hW hG hr hx hs he hne
    exact ⟨⟨Int.le_refl _, hx.2⟩, ⟨Int.le_refl _, h.1⟩, he⟩
  | succ n ih =>
    obtain ⟨a1, a2, a3⟩ := ih
    have h := nx_ok hW hG hr ⟨by omega, a1.2⟩ ⟨by omega, by omega⟩ a3 hne
    by_cases c : (tr g T r x n).1 < gs g r
    · obtain ⟨b1, b2, b3, b4, b5, b6, b7, b8⟩ := h.2 c
      have h2 := nx_ok hW hG hr b1 ⟨by omega, b2.2⟩ b3 hne
      exact ⟨⟨by show x.1 ≤ (nx g T r (tr g T r x n)).1; omega, b1.2⟩, ⟨by show x.2 ≤ (nx g T r (tr g T r x n)).2; omega, h2.1⟩, b3⟩
    · have e : nx g T r (tr g T r x n) = tr g T r x n := by
        unfold nx
        rw [if_pos (by omega)]
      have e2 : tr g T r x (n + 1) = tr g T r x n := e
      rw [e2]
      exact ⟨a1, a2, a3⟩
theorem tg_mono {g : Gr} {T : Tb} (hW : gWF g) (hG : Good g T) {r e : Int} {x : Int × Int} (hr : 0 ≤ r ∧ r < 6) (hx : 0 ≤ x.1 ∧ x.1 ≤ gs g r) (hs : 0 ≤ x.2 ∧ x.2 ≤ gl g) (he : T r x.1 x.2 = e) (hne : e ≠ -1) (n : Nat) : ∀ d, (tr g T r x n).2 ≤ (tr g T r x (n + d)).2 := by
  intro d
  induction d with
  | zero => exact Int.le_refl _
  | succ d ih =>
    obtain ⟨a1, a2, a3⟩ := tg_ok hW hG hr hx hs he hne (n + d)
    by_cases c : (tr g T r x (n + d)).1 < gs g r
    · have h := ((nx_ok hW hG hr ⟨by omega, a1.2⟩ ⟨by omega, by omega⟩ a3 hne).2 c).2.1.1
      exact Int.le_trans ih h
    · have e : tr g T r x (n + (d + 1)) = tr g T r x (n + d) := by
        show nx g T r (tr g T r x (n + d)) = _
        unfold nx
        rw [if_pos (by omega)]
      rw [e]
      exact ih
theorem tg_ch {g : Gr} {T : Tb} (hW : gWF g) (hG : Good g T) {r e : Int} {x : Int × Int} (hr : 0 ≤ r ∧ r < 6) (hx : 0 ≤ x.1 ∧ x.1 ≤ gs g r) (hs : 0 ≤ x.2 ∧ x.2 ≤ gl g) (he : T r x.1 x.2 = e) (hne : e ≠ -1) {n m : Nat} (h : n < m) (hk : emc g T r (tr g T r x n) ≠ -1) : (tr g T r x n).2 < (tr g T r x m).2 := by
  obtain ⟨a1, a2, a3⟩ := tg_ok hW hG hr hx hs he hne n
  have c : (tr g T r x n).1 < gs g r := by
    by_cases c : (tr g T r x n).1 < gs g r
    · exact c
    · exfalso
      apply hk
      unfold emc
      rw [if_pos (by omega)]
  have b := (((nx_ok hW hG hr ⟨by omega, a1.2⟩ ⟨by omega, by omega⟩ a3 hne).2 c).2.2.2.2.2.2.1 hk).2.2.2
  have := tg_mono hW hG hr hx hs he hne (n + 1) (m - (n + 1))
  rw [show n + 1 + (m - (n + 1)) = m by omega] at this
  have b : (tr g T r x n).2 < (tr g T r x (n + 1)).2 := b
  omega
-- what n steps of a node's walk leave in the class's rows
def CW (g : Gr) (T : Tb) (σ0 : St) (j r : Int) (x : Int × Int) (n : Nat) (σ : St) : Prop :=
  (∀ q, q ≠ 73 → q ≠ 75 → q ≠ 77 → q ≠ 79 → σ q = σ0 q) ∧ σ 73 = ui (σ0 73) j (σ0 73 j + wsum g T r x n) ∧
  (∀ k, k < n → emc g T r (tr g T r x k) ≠ -1 → σ 77 (tr g T r x k).2 = emc g T r (tr g T r x k) ∧ σ 79 (tr g T r x k).2 = j) ∧
  (∀ q, (∀ k, k < n → emc g T r (tr g T r x k) ≠ -1 → (tr g T r x k).2 ≠ q) → σ 77 q = σ0 77 q ∧ σ 79 q = σ0 79 q)
theorem ui_ui (f : Int → Int) (i v w : Int) : ui (ui f i v) i w = ui f i w := by
  funext j
  unfold ui
  split <;> rfl
theorem ui_id (f : Int → Int) (i : Int) : ui f i (f i) = f := by
  funext j
  unfold ui
  split
  · next h => rw [h]
  · rfl
theorem CW_0 (g : Gr) (T : Tb) (σ : St) (j r : Int) (x : Int × Int) : CW g T σ j r x 0 σ :=
  ⟨fun _ _ _ _ _ => rfl, by show σ 73 = ui (σ 73) j (σ 73 j + 0); rw [Int.add_zero, ui_id], fun k h => absurd h (Nat.not_lt_zero k), fun q _ => ⟨rfl, rfl⟩⟩
theorem CW_none {g : Gr} {T : Tb} {σ0 σ : St} {j r : Int} {x : Int × Int} {n : Nat} (h : CW g T σ0 j r x n σ) (hc : emc g T r (tr g T r x n) = -1) (hw : emw g T r (tr g T r x n) = 0) : CW g T σ0 j r x (n + 1) σ := by
  obtain ⟨h1, h2, h3, h4⟩ := h
  refine ⟨h1, ?_, fun k hk he => ?_, fun q hq => h4 q (fun k hk he => hq k (by omega) he)⟩
  · show σ 73 = ui (σ0 73) j (σ0 73 j + (wsum g T r x n + emw g T r (tr g T r x n)))
    rw [hw, Int.add_zero]
    exact h2
  · by_cases z : k = n
    · subst z
      exact absurd hc he
    · exact h3 k (by omega) he
theorem CW_water {g : Gr} {T : Tb} {σ0 σ : St} {j r : Int} {x : Int × Int} {n : Nat} (h : CW g T σ0 j r x n σ) (hc : emc g T r (tr g T r x n) = -1) (hw : emw g T r (tr g T r x n) = 1) : CW g T σ0 j r x (n + 1) (up σ 73 j (σ 73 j + 1)) := by
  obtain ⟨h1, h2, h3, h4⟩ := h
  refine ⟨fun q a b c d => by rw [up_n _ _ _ a]; exact h1 q a b c d, ?_, fun k hk he => ?_, fun q hq => ?_⟩
  · show _ = ui (σ0 73) j (σ0 73 j + (wsum g T r x n + emw g T r (tr g T r x n)))
    rw [up_s, hw, h2, ui_ui, ui_s, Int.add_assoc]
  · rw [up_n _ _ _ (by decide), up_n _ _ _ (by decide)]
    by_cases z : k = n
    · subst z
      exact absurd hc he
    · exact h3 k (by omega) he
  · rw [up_n _ _ _ (by decide), up_n _ _ _ (by decide)]
    exact h4 q (fun k hk he => hq k (by omega) he)
theorem CW_child {g : Gr} {T : Tb} {σ0 σ : St} {j r : Int} {x : Int × Int} {n : Nat} (h : CW g T σ0 j r x n σ) (hw : emw g T r (tr g T r x n) = 0) (hne : emc g T r (tr g T r x n) ≠ -1) (hd : ∀ k, k < n → emc g T r (tr g T r x k) ≠ -1 → (tr g T r x k).2 < (tr g T r x n).2) : CW g T σ0 j r x (n + 1) (up (up σ 77 (tr g T r x n).2 (emc g T r (tr g T r x n))) 79 (tr g T r x n).2 j) := by
  obtain ⟨h1, h2, h3, h4⟩ := h
  have e77 : ∀ q, up (up σ 77 (tr g T r x n).2 (emc g T r (tr g T r x n))) 79 (tr g T r x n).2 j 77 q = ui (σ 77) (tr g T r x n).2 (emc g T r (tr g T r x n)) q := fun q => by rw [up_n _ _ _ (by decide), up_s]
  have e79 : ∀ q, up (up σ 77 (tr g T r x n).2 (emc g T r (tr g T r x n))) 79 (tr g T r x n).2 j 79 q = ui (σ 79) (tr g T r x n).2 j q := fun q => by rw [up_s, up_n _ _ _ (by decide)]
  refine ⟨fun q a b c d => by rw [up_n _ _ _ d, up_n _ _ _ c]; exact h1 q a b c d, ?_, fun k hk he => ?_, fun q hq => ?_⟩
  · show _ = ui (σ0 73) j (σ0 73 j + (wsum g T r x n + emw g T r (tr g T r x n)))
    rw [up_n _ _ _ (by decide), up_n _ _ _ (by decide), hw, Int.add_zero]
    exact h2
  · rw [e77, e79]
    by_cases z : k = n
    · subst z
      rw [ui_s, ui_s]
      exact ⟨rfl, rfl⟩
    · have := hd k (by omega) he
      rw [ui_n _ _ (by omega), ui_n _ _ (by omega)]
      exact h3 k (by omega) he
  · have := hq n (by omega) hne
    rw [e77, e79, ui_n _ _ (Ne.symm this), ui_n _ _ (Ne.symm this)]
    exact h4 q (fun k hk he => hq k (by omega) he)
theorem CW_app {g : Gr} {T : Tb} {σ0 σ1 σ : St} {j r : Int} {x : Int × Int} {n m : Nat} (h : CW g T σ0 j r x n σ1) (h' : CW g T σ1 j r (tr g T r x n) m σ) (hd : ∀ k l, k < l → emc g T r (tr g T r x k) ≠ -1 → (tr g T r x k).2 < (tr g T r x l).2) : CW g T σ0 j r x (n + m) σ := by
  obtain ⟨h1, h2, h3, h4⟩ := h
  obtain ⟨g1, g2, g3, g4⟩ := h'
  refine ⟨fun q a b c d => by rw [g1 q a b c d]; exact h1 q a b c d, ?_, fun k hk he => ?_, fun q hq => ?_⟩
  · rw [g2, h2, ui_ui, ui_s, wsum_add, Int.add_assoc]
  · by_cases z : k < n
    · obtain ⟨u1, u2⟩ := h3 k z he
      obtain ⟨v1, v2⟩ := g4 (tr g T r x k).2 (fun l hl hel => by
        have := hd k (n + l) (by omega) he
        rw [tr_add] at this
        omega)
      rw [v1, v2]
      exact ⟨u1, u2⟩
    · obtain ⟨d, rfl⟩ := Nat.exists_eq_add_of_le (Nat.le_of_not_lt z)
      rw [tr_add] at he ⊢
      exact g3 d (by omega) he
  · obtain ⟨u1, u2⟩ := h4 q (fun k hk he => hq k (by omega) he)
    obtain ⟨v1, v2⟩ := g4 q (fun k hk he => by
      rw [← tr_add] at he ⊢
      exact hq (n + k) (by omega) he)
    rw [v1, v2]
    exact ⟨u1, u2⟩
-- numbers
def nb (f : Int → Int) (s : Int) : Nat → Int
  | 0 => 0
  | n + 1 => (nb f s n * 10 + f (s + n) - 48) % 1000000
def dec (g : Gr) (p : Int) : Int := nb (gt g) p (RE g 48 57 p - p).toNat
/-- v is the number of a node (r, s), or -1 -/
def isN (g : Gr) (T : Tb) (r s v : Int) : Prop := (v = -1 ∧ ∀ i, 0 ≤ i → i < gs g r → ge g r i ≠ 35) ∨ (∃ n, (tr g T r (0, s) n).1 < gs g r ∧ ge g r (tr g T r (0, s) n).1 = 35 ∧ (∀ i, 0 ≤ i → i < (tr g T r (0, s) n).1 → ge g r i ≠ 35) ∧ v = dec g (tr g T r (0, s) n).2)
theorem nb_b (f : Int → Int) (s : Int) : ∀ n, 0 ≤ nb f s n ∧ nb f s n < 1000000 := by
  intro n
  cases n with
  | zero => exact ⟨Int.le_refl 0, show (0 : Int) < 1000000 by decide⟩
  | succ n => exact ⟨Int.emod_nonneg _ (by decide), Int.emod_lt_of_pos _ (by decide)⟩
-- the top level, as a machine
def tp (g : Gr) (T : Tb) : Nat → Int
  | 0 => 0
  | n + 1 => if gl g ≤ tp g T n then tp g T n else if first T (tp g T n) = -1 then tp g T n + 1 else T (first T (tp g T n)) 0 (tp g T n)
/-- counts at the top level: islands, water, the present run of water, the longest -/
def tcn (g : Gr) (T : Tb) : Nat → Int × Int × Int × Int
  | 0 => (0, 0, 0, 0)
  | n + 1 => if gl g ≤ tp g T n then tcn g T n else if first T (tp g T n) = -1 then ((tcn g T n).1, (tcn g T n).2.1 + 1, (tcn g T n).2.2.1 + 1, max (tcn g T n).2.2.2 ((tcn g T n).2.2.1 + 1)) else ((tcn g T n).1 + 1, (tcn g T n).2.1, 0, (tcn g T n).2.2.2)
/-- (k, q) is a top-level island -/
def To (g : Gr) (T : Tb) (k q : Int) : Prop := k ≠ -1 ∧ ∃ n, tp g T n = q ∧ q < gl g ∧ first T q = k
def nodeOK (g : Gr) (T : Tb) (σ : St) (j : Int) : Prop :=
  (0 ≤ σ 63 j ∧ σ 63 j < 6) ∧ (0 ≤ σ 65 j ∧ σ 65 j < gl g) ∧ T (σ 63 j) 0 (σ 65 j) = σ 67 j ∧ σ 67 j ≠ -1 ∧
  ((σ 69 j = -1 ∧ To g T (σ 63 j) (σ 65 j) ∧ σ 71 j = 0) ∨ ((0 ≤ σ 69 j ∧ σ 69 j < j) ∧ Ch g T (σ 63 (σ 69 j)) (σ 65 (σ 69 j)) (σ 63 j) (σ 65 j) ∧ σ 71 j = σ 71 (σ 69 j) + 1)) ∧
  (∃ N, gs g (σ 63 j) ≤ (tr g T (σ 63 j) (0, σ 65 j) N).1 ∧ σ 73 j = wsum g T (σ 63 j) (0, σ 65 j) N) ∧ isN g T (σ 63 j) (σ 65 j) (σ 75 j)
/-- the class's nodes are the parse of g -/
def PO (g : Gr) (T : Tb) (σ : St) : Prop :=
  (0 ≤ σ 61 11 ∧ σ 61 11 ≤ gl g) ∧ (∀ j, 0 ≤ j → j < σ 61 11 → nodeOK g T σ j) ∧
  (∀ i j, 0 ≤ i → i < j → j < σ 61 11 → σ 65 i < σ 65 j ∧ (σ 65 j < σ 67 i → σ 71 i < σ 71 j)) ∧
  (∀ k q, To g T k q → ∃ j, (0 ≤ j ∧ j < σ 61 11) ∧ σ 65 j = q ∧ σ 63 j = k ∧ σ 69 j = -1) ∧
  (∀ j, 0 ≤ j → j < σ 61 11 → ∀ k q, Ch g T (σ 63 j) (σ 65 j) k q → ∃ i, (0 ≤ i ∧ i < σ 61 11) ∧ σ 65 i = q ∧ σ 63 i = k ∧ σ 69 i = j) ∧
  (∃ N, gl g ≤ tp g T N ∧ σ 61 12 = (tcn g T N).1 ∧ σ 61 13 = (tcn g T N).2.1 ∧ σ 61 15 = (tcn g T N).2.2.2)
-- the class's tables and nodes are those of its text and rules
def Fresh (σ : St) : Prop := (MB σ ∧ gWF (cg σ 1) ∧ Good (cg σ 1) (ct σ) ∧ (∀ p, 0 ≤ p → p ≤ σ 1 4 → σ 58 p = first (ct σ) p ∧ σ 54 p = runE (cg σ 1) 48 57 p ∧ σ 56 p = runE (cg σ 1) 97 122 p)) ∧ PO (cg σ 1) (ct σ) σ
def RF (σ : St) : Prop := MB σ ∧ gWF (cg σ 1) ∧ (σ 0 7 = 0 ∨ σ 0 7 = 1) ∧ (σ 0 7 = 0 → Fresh σ)
def RFP (σ s : St) : Prop := (∀ q, q ≠ 0 → q ≠ 54 → q ≠ 56 → q ≠ 58 → q ≠ 60 → (q < 61 ∨ 80 ≤ q) → s q = σ q) ∧ (∀ j, j ≠ 7 → s 0 j = σ 0 j) ∧ s 0 7 = 0 ∧ Fresh s
/-- the last of the first n nodes that holds p, or -1 -/
def inn (σ : St) (p : Int) : Nat → Int
  | 0 => -1
  | n + 1 => if σ 65 n ≤ p ∧ p < σ 67 n then n else inn σ p n
/-- how many of the first n nodes have rule k -/
def cntr (σ : St) (k : Int) : Nat → Int
  | 0 => 0
  | n + 1 => cntr σ k n + if σ 63 n = k then 1 else 0
def mixr (f : Int → Int) (h : Int) : Nat → Int
  | 0 => h
  | n + 1 => 31 * mixr f h n + f n
def mixR (sz : Int → Int) (el : Int → Int → Int) (sp : Int → Int) (h : Int) : Nat → Int
  | 0 => h
  | n + 1 => 31 * mixr (el n) (31 * mixR sz el sp h n + sz n) (sz n).toNat + sp n
def mixN (σ : St) (h : Int) : Nat → Int
  | 0 => h
  | n + 1 => 31 * (31 * (31 * (31 * (31 * (31 * mixN σ h n + σ 63 n) + σ 65 n) + σ 67 n) + σ 69 n) + σ 73 n) + σ 75 n
-- the reference's found nodes
/-- a row of the found nodes behind n steps of a walk: each nested island appends -/
def xr (g : Gr) (T : Tb) (r : Int) (x : Int × Int) (a : Int → Int) (N : Int) (val : Int × Int → Int) : Nat → Int → Int
  | 0 => a
  | n + 1 => if emc g T r (tr g T r x n) = -1 then xr g T r x a N val n else ui (xr g T r x a N val n) (N + csum g T r x n) (val (tr g T r x n))
def MW (g : Gr) (T : Tb) (σ0 : St) (f r : Int) (x : Int × Int) (n : Nat) (σ : St) : Prop :=
  (∀ q, q ≠ 80 → q ≠ 86 → q ≠ 87 → q ≠ 88 → q ≠ 89 → q ≠ 90 → σ q = σ0 q) ∧ σ 80 = ui (σ0 80) 12 (σ0 80 12 + csum g T r x n) ∧
  σ 86 = xr g T r x (σ0 86) (σ0 80 12) (emc g T r) n ∧ σ 87 = xr g T r x (σ0 87) (σ0 80 12) (fun y => y.2) n ∧ σ 88 = xr g T r x (σ0 88) (σ0 80 12) (fun _ => f) n ∧
  σ 89 = ui (xr g T r x (σ0 89) (σ0 80 12) (fun _ => 0) n) f (σ0 89 f + wsum g T r x n)
/-- both tables are the grammar's -/
def MC (σ : St) : Prop := gWF (mg (σ 81) 0) ∧ M8 σ ∧ Good (mg (σ 81) 0) (ct σ) ∧ (∀ p, 0 ≤ p → p ≤ σ 81 0 → ∀ r, 0 ≤ r → r < 6 → ∀ i, 0 ≤ i → i ≤ gs (mg (σ 81) 0) r → mt σ r i p = ct σ r i p)
theorem xr_add (g : Gr) (T : Tb) (r : Int) (x : Int × Int) (a : Int → Int) (N : Int) (val : Int × Int → Int) (n : Nat) : ∀ m, xr g T r x a N val (n + m) = xr g T r (tr g T r x n) (xr g T r x a N val n) (N + csum g T r x n) val m := by
  intro m
  induction m with
  | zero => rfl
  | succ m ih =>
    show (if emc g T r (tr g T r x (n + m)) = -1 then xr g T r x a N val (n + m) else ui (xr g T r x a N val (n + m)) (N + csum g T r x (n + m)) (val (tr g T r x (n + m)))) = (if emc g T r (tr g T r (tr g T r x n) m) = -1 then _ else ui _ (N + csum g T r x n + csum g T r (tr g T r x n) m) (val (tr g T r (tr g T r x n) m)))
    rw [ih, tr_add, csum_add, Int.add_assoc]
theorem csum_mono (g : Gr) (T : Tb) (r : Int) (x : Int × Int) : ∀ n, 0 ≤ csum g T r x n ∧ csum g T r x n ≤ csum g T r x (n + 1) := by
  have h : ∀ n, csum g T r x n ≤ csum g T r x (n + 1) := fun n => by
    show csum g T r x n ≤ csum g T r x n + (if emc g T r (tr g T r x n) = -1 then 0 else 1)
    split <;> omega
  intro n
  induction n with
  | zero => exact ⟨Int.le_refl 0, h 0⟩
  | succ n ih => exact ⟨by have := h n; omega, h (n + 1)⟩
theorem xr_low (g : Gr) (T : Tb) (r : Int) (x : Int × Int) (a : Int → Int) (N : Int) (val : Int × Int → Int) {q : Int} (hq : q < N) : ∀ n, xr g T r x a N val n q = a q := by
  intro n
  induction n with
  | zero => rfl
  | succ n ih =>
    show (if emc g T r (tr g T r x n) = -1 then xr g T r x a N val n else ui (xr g T r x a N val n) (N + csum g T r x n) (val (tr g T r x n))) q = _
    have := (csum_mono g T r x n).1
    split
    · exact ih
    · rw [ui_n _ _ (by omega)]
      exact ih
theorem ui_comm (f : Int → Int) {i j : Int} (v w : Int) (h : i ≠ j) : ui (ui f i v) j w = ui (ui f j w) i v := by
  funext q
  unfold ui
  by_cases a : q = j
  · subst a
    rw [if_pos rfl, if_neg (Ne.symm h), if_pos rfl]
  · rw [if_neg a, if_neg a]
theorem MW_0 (g : Gr) (T : Tb) (σ : St) (f r : Int) (x : Int × Int) : MW g T σ f r x 0 σ :=
  ⟨fun _ _ _ _ _ _ _ => rfl, by show σ 80 = ui (σ 80) 12 (σ 80 12 + 0); rw [Int.add_zero, ui_id], rfl, rfl, rfl, by show σ 89 = ui (σ 89) f (σ 89 f + 0); rw [Int.add_zero, ui_id]⟩
theorem MW_none {g : Gr} {T : Tb} {σ0 σ : St} {f r : Int} {x : Int × Int} {n : Nat} (h : MW g T σ0 f r x n σ) (hc : emc g T r (tr g T r x n) = -1) (hw : emw g T r (tr g T r x n) = 0) : MW g T σ0 f r x (n + 1) σ := by
  obtain ⟨h1, h2, h3, h4, h5, h6⟩ := h
  have ec : csum g T r x (n + 1) = csum g T r x n := by
    show csum g T r x n + (if emc g T r (tr g T r x n) = -1 then 0 else 1) = _
    rw [if_pos hc, Int.add_zero]
  have ew : wsum g T r x (n + 1) = wsum g T r x n := by
    show wsum g T r x n + emw g T r (tr g T r x n) = _
    rw [hw, Int.add_zero]
  have ex : ∀ a N val, xr g T r x a N val (n + 1) = xr g T r x a N val n := fun a N val => if_pos hc
  unfold MW
  rw [ec, ew, ex, ex, ex, ex]
  exact ⟨h1, h2, h3, h4, h5, h6⟩
theorem MW_water {g : Gr} {T : Tb} {σ0 σ : St} {f r : Int} {x : Int × Int} {n : Nat} (h : MW g T σ0 f r x n σ) (hc : emc g T r (tr g T r x n) = -1) (hw : emw g T r (tr g T r x n) = 1) : MW g T σ0 f r x (n + 1) (up σ 89 f (σ 89 f + 1)) := by
  obtain ⟨h1, h2, h3, h4, h5, h6⟩ := h
  have ec : csum g T r x (n + 1) = csum g T r x n := by
    show csum g T r x n + (if emc g T r (tr g T r x n) = -1 then 0 else 1) = _
    rw [if_pos hc, Int.add_zero]
  have ew : wsum g T r x (n + 1) = wsum g T r x n + 1 := by
    show wsum g T r x n + emw g T r (tr g T r x n) = _
    rw [hw]
  have ex : ∀ a N val, xr g T r x a N val (n + 1) = xr g T r x a N val n := fun a N val => if_pos hc
  unfold MW
  rw [ec, ew, ex, ex, ex, ex, up_n (q := 80) _ _ _ (by decide), up_n (q := 86) _ _ _ (by decide), up_n (q := 87) _ _ _ (by decide), up_n (q := 88) _ _ _ (by decide), up_s, h6, ui_ui, ui_s]
  exact ⟨fun q a b c d e i => by rw [up_n _ _ _ e]; exact h1 q a b c d e i, h2, h3, h4, h5, by rw [Int.add_assoc]⟩
/-- what addNode makes -/
def adN (σ : St) (k q f : Int) : St := up (up (up (up (up (up σ 86 (σ 80 12) k) 87 (σ 80 12) q) 88 (σ 80 12) f) 89 (σ 80 12) 0) 90 (σ 80 12) (-1)) 80 12 (σ 80 12 + 1)
theorem adN_r (σ : St) (k q f : Int) : (∀ y, y ≠ 80 → y ≠ 86 → y ≠ 87 → y ≠ 88 → y ≠ 89 → y ≠ 90 → adN σ k q f y = σ y) ∧ adN σ k q f 80 = ui (σ 80) 12 (σ 80 12 + 1) ∧ adN σ k q f 86 = ui (σ 86) (σ 80 12) k ∧ adN σ k q f 87 = ui (σ 87) (σ 80 12) q ∧ adN σ k q f 88 = ui (σ 88) (σ 80 12) f ∧ adN σ k q f 89 = ui (σ 89) (σ 80 12) 0 ∧ adN σ k q f 90 = ui (σ 90) (σ 80 12) (-1) := by
  unfold adN
  refine ⟨fun y a b c d e i => by rw [up_n _ _ _ a, up_n _ _ _ i, up_n _ _ _ e, up_n _ _ _ d, up_n _ _ _ c, up_n _ _ _ b], ?_, ?_, ?_, ?_, ?_, ?_⟩
  · rw [up_s, up_n _ _ _ (by decide), up_n _ _ _ (by decide), up_n _ _ _ (by decide), up_n _ _ _ (by decide), up_n _ _ _ (by decide)]
  · rw [up_n _ _ _ (by decide), up_n _ _ _ (by decide), up_n _ _ _ (by decide), up_n _ _ _ (by decide), up_n _ _ _ (by decide), up_s]
  · rw [up_n _ _ _ (by decide), up_n _ _ _ (by decide), up_n _ _ _ (by decide), up_n _ _ _ (by decide), up_s, up_n _ _ _ (by decide)]
  · rw [up_n _ _ _ (by decide), up_n _ _ _ (by decide), up_n _ _ _ (by decide), up_s, up_n _ _ _ (by decide), up_n _ _ _ (by decide)]
  · rw [up_n _ _ _ (by decide), up_n _ _ _ (by decide), up_s, up_n _ _ _ (by decide), up_n _ _ _ (by decide), up_n _ _ _ (by decide)]
  · rw [up_n _ _ _ (by decide), up_s, up_n _ _ _ (by decide), up_n _ _ _ (by decide), up_n _ _ _ (by decide), up_n _ _ _ (by decide)]
theorem MW_child {g : Gr} {T : Tb} {σ0 σ : St} {f r : Int} {x : Int × Int} {n : Nat} (hf : f < σ0 80 12) (h : MW g T σ0 f r x n σ) (hw : emw g T r (tr g T r x n) = 0) (hne : emc g T r (tr g T r x n) ≠ -1) : MW g T σ0 f r x (n + 1) (adN σ (emc g T r (tr g T r x n)) (tr g T r x n).2 f) := by
  obtain ⟨h1, h2, h3, h4, h5, h6⟩ := h
  have e12 : σ 80 12 = σ0 80 12 + csum g T r x n := by rw [h2, ui_s]
  have c0 := (csum_mono g T r x n).1
  obtain ⟨a1, a2, a3, a4, a5, a6, a7⟩ := adN_r σ (emc g T r (tr g T r x n)) (tr g T r x n).2 f
  have ec : csum g T r x (n + 1) = csum g T r x n + 1 := by
    show csum g T r x n + (if emc g T r (tr g T r x n) = -1 then 0 else 1) = _
    rw [if_neg hne]
  have ew : wsum g T r x (n + 1) = wsum g T r x n := by
    show wsum g T r x n + emw g T r (tr g T r x n) = _
    rw [hw, Int.add_zero]
  have ex : ∀ a N val, xr g T r x a N val (n + 1) = ui (xr g T r x a N val n) (N + csum g T r x n) (val (tr g T r x n)) := fun a N val => if_neg hne
  unfold MW
  rw [ec, ew, ex, ex, ex, ex]
  refine ⟨fun q a b c d e i => by rw [a1 q a b c d e i]; exact h1 q a b c d e i, ?_, ?_, ?_, ?_, ?_⟩
  · rw [a2, e12, h2, ui_ui, Int.add_assoc]
  · rw [a3, e12, h3]
  · rw [a4, e12, h4]
  · rw [a5, e12, h5]
  · rw [a6, e12, h6, ui_comm _ _ _ (show f ≠ σ0 80 12 + csum g T r x n by omega)]
theorem MW_app {g : Gr} {T : Tb} {σ0 σ1 σ : St} {f r : Int} {x : Int × Int} {n m : Nat} (hf : f < σ0 80 12) (h : MW g T σ0 f r x n σ1) (h' : MW g T σ1 f r (tr g T r x n) m σ) : MW g T σ0 f r x (n + m) σ := by
  obtain ⟨h1, h2, h3, h4, h5, h6⟩ := h
  obtain ⟨g1, g2, g3, g4, g5, g6⟩ := h'
  have e12 : σ1 80 12 = σ0 80 12 + csum g T r x n := by rw [h2, ui_s]
  have c0 := (csum_mono g T r x n).1
  refine ⟨fun q a b c d e i => by rw [g1 q a b c d e i]; exact h1 q a b c d e i, ?_, ?_, ?_, ?_, ?_⟩
  · rw [g2, e12, h2, ui_ui, csum_add, Int.add_assoc]
  · rw [g3, h3, e12, xr_add]
  · rw [g4, h4, e12, xr_add]
  · rw [g5, h5, e12, xr_add]
  · rw [g6, e12, xr_add, h6, ui_s, wsum_add, ← Int.add_assoc]
    have key : ∀ (a : Int → Int) (v w : Int) (l : Nat), ui (xr g T r (tr g T r x n) (ui a f v) (σ0 80 12 + csum g T r x n) (fun _ => 0) l) f w = ui (xr g T r (tr g T r x n) a (σ0 80 12 + csum g T r x n) (fun _ => 0) l) f w := by
      intro a v w l
      induction l with
      | zero => exact ui_ui _ _ _ _
      | succ l ih =>
        have cl := (csum_mono g T r (tr g T r x n) l).1
        show ui (if emc g T r (tr g T r (tr g T r x n) l) = -1 then _ else ui _ _ _) f w = ui (if emc g T r (tr g T r (tr g T r x n) l) = -1 then _ else ui _ _ _) f w
        by_cases c : emc g T r (tr g T r (tr g T r x n) l) = -1
        · rw [if_pos c, if_pos c]
          exact ih
        · rw [if_neg c, if_neg c, ui_comm _ _ _ (by omega), ih, ui_comm _ _ _ (by omega)]
    rw [key]
/-- a list of found nodes: rule, start, parent's place -/
def FB (g : Gr) (T : Tb) (fr fs fp : Int → Int) (m : Int) : Prop :=
  (∀ f, 0 ≤ f → f < m → (0 ≤ fr f ∧ fr f < 6) ∧ (0 ≤ fs f ∧ fs f < gl g) ∧ T (fr f) 0 (fs f) ≠ -1 ∧ ((fp f = -1 ∧ To g T (fr f) (fs f)) ∨ ((0 ≤ fp f ∧ fp f < f) ∧ Ch g T (fr (fp f)) (fs (fp f)) (fr f) (fs f)))) ∧
  (∀ f1 f2, 0 ≤ f1 → f1 < f2 → f2 < m → fp f1 = fp f2 → fs f1 < fs f2)
/-- the found nodes are all -/
def FP (g : Gr) (T : Tb) (σ : St) : Prop :=
  0 ≤ σ 80 12 ∧ FB g T (σ 86) (σ 87) (σ 88) (σ 80 12) ∧ (∀ k q, To g T k q → ∃ f, (0 ≤ f ∧ f < σ 80 12) ∧ σ 87 f = q ∧ σ 86 f = k ∧ σ 88 f = -1) ∧
  (∀ f, 0 ≤ f → f < σ 80 12 → ∀ k q, Ch g T (σ 86 f) (σ 87 f) k q → ∃ i, (0 ≤ i ∧ i < σ 80 12) ∧ σ 87 i = q ∧ σ 86 i = k ∧ σ 88 i = f) ∧
  (∀ f, 0 ≤ f → f < σ 80 12 → (∃ N, gs g (σ 86 f) ≤ (tr g T (σ 86 f) (0, σ 87 f) N).1 ∧ σ 89 f = wsum g T (σ 86 f) (0, σ 87 f) N) ∧ isN g T (σ 86 f) (σ 87 f) (σ 90 f)) ∧
  (∃ N, gl g ≤ tp g T N ∧ σ 80 13 = (tcn g T N).1 ∧ σ 80 14 = (tcn g T N).2.1 ∧ σ 80 15 = (tcn g T N).2.2.2)
/-- what the reference's parse needs: class and reference hold the same grammar, and the class has parsed it -/
def RP (σ : St) : Prop := gWF (mg (σ 81) 0) ∧ M8 σ ∧ Fresh σ ∧ cg σ 1 = mg (σ 81) 0
/-- behind the reference's parse -/
def PP (σ s : St) : Prop := (∀ q, q ≠ 80 → q ≠ 85 → q ≠ 86 → q ≠ 87 → q ≠ 88 → q ≠ 89 → q ≠ 90 → s q = σ q) ∧ (∀ j, j ≠ 12 → j ≠ 13 → j ≠ 14 → j ≠ 15 → s 80 j = σ 80 j) ∧ RP s ∧ MC s ∧ FP (mg (s 81) 0) (ct s) s
/-- a state in which the reference has parsed, too -/
def QP (σ : St) : Prop := RP σ ∧ MC σ ∧ FP (mg (σ 81) 0) (ct σ) σ
/-- a found node and the class's node with its start -/
def atN (σ : St) (f j : Int) : Prop := (0 ≤ f ∧ f < σ 80 12) ∧ (0 ≤ j ∧ j < σ 61 11) ∧ σ 65 j = σ 87 f
