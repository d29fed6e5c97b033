theorem mt_up {s : St} {r i p r2 i2 p2 v : Int} (hi : 0 ≤ i ∧ i ≤ 8) (hp : 0 ≤ p ∧ p ≤ 100) (hi2 : 0 ≤ i2 ∧ i2 ≤ 8) (hp2 : 0 ≤ p2 ∧ p2 ≤ 100) : mt (up s 85 (101 * (9 * r + i) + p) v) r2 i2 p2 = if r2 = r ∧ i2 = i ∧ p2 = p then v else mt s r2 i2 p2 := by
  unfold mt
  rw [up_s]
  unfold ui
  by_cases h : r2 = r ∧ i2 = i ∧ p2 = p
  · obtain ⟨rfl, rfl, rfl⟩ := h
    rw [if_pos rfl, if_pos ⟨rfl, rfl, rfl⟩]
  · rw [if_neg h, if_neg]
    intro z
    have := mcell_inj z hi2 hp2 hi hp
    exact h ⟨by omega, by omega, by omega⟩
theorem M8_up {s : St} (h : M8 s) {j v : Int} (hv : -1 ≤ v ∧ v ≤ 100) : M8 (up s 85 j v) := fun q => by
  rw [up_s]
  unfold ui
  split
  · exact hv
  · exact h q
/-- a whole island's end reads later places alone -/
theorem rhs0 {g : Gr} (hW : gWF g) {r q : Int} (hr : 0 ≤ r ∧ r < 6) (hq0 : 0 ≤ q) (hq : q ≤ gl g) : (∀ T T' : Tb, (∀ x, q < x → x ≤ gl g → T' r 1 x = T r 1 x) → rhs g T' r 0 q = rhs g T r 0 q) ∧ (∀ T : Tb, (∀ x, 1 ≤ gs g r → q < x → x ≤ gl g → T r 1 x = -1 ∨ (x ≤ T r 1 x ∧ T r 1 x ≤ gl g)) → rhs g T r 0 q = -1 ∨ (q < rhs g T r 0 q ∧ rhs g T r 0 q ≤ gl g)) := by
  obtain ⟨hL, ht, hR⟩ := hW
  obtain ⟨⟨z0, z1⟩, z2, z3, z4⟩ := hR r hr.1 hr.2
  by_cases c : (0 : Int) = gs g r
  · have h : ∀ T : Tb, rhs g T r 0 q = -1 := fun T => by
      unfold rhs
      rw [if_pos c, if_pos rfl]
    exact ⟨fun T T' _ => by rw [h, h], fun T _ => Or.inl (h T)⟩
  · obtain ⟨f1, f2⟩ := z4 (by omega)
    have ind : ∀ T T' : Tb, eE g T' (ge g r 0) q = eE g T (ge g r 0) q := fun T T' => by
      unfold eE
      rw [if_neg f2, if_neg f2]
    have h : ∀ T : Tb, rhs g T r 0 q = if eE g T (ge g r 0) q = -1 then -1 else T r (0 + 1) (eE g T (ge g r 0) q) := fun T => by
      unfold rhs
      rw [if_neg c, if_neg f1]
    refine ⟨fun T T' hA => ?_, fun T hA => ?_⟩
    · rw [h T, h T', ind T T']
      rcases eE_nr (g := g) (T := T) (e := ge g r 0) hq f2 with d | d
      · rw [if_pos d, if_pos d]
      · have un : ¬ eE g T (ge g r 0) q = -1 := by omega
        rw [if_neg un, if_neg un]
        exact hA _ d.1 d.2
    · rw [h T]
      rcases eE_nr (g := g) (T := T) (e := ge g r 0) hq f2 with d | d
      · rw [if_pos d]
        exact Or.inl rfl
      · have un : ¬ eE g T (ge g r 0) q = -1 := by omega
        rw [if_neg un]
        rcases hA _ (by omega) d.1 d.2 with e | e
        · exact Or.inl e
        · exact Or.inr ⟨by show q < T r 1 _; omega, e.2⟩
theorem rhs_congr {g : Gr} {T T' : Tb} (hW : gWF g) {r i q : Int} (hr : 0 ≤ r ∧ r < 6) (hi : 0 ≤ i) (hi2 : i ≤ gs g r) (hq0 : 0 ≤ q) (hq : q ≤ gl g) (h0 : ∀ k, 0 ≤ k → k < 6 → T' k 0 q = T k 0 q) (h1 : i < gs g r → T' r (i + 1) q = T r (i + 1) q) (hA : ∀ i' x, 0 ≤ i' → i' ≤ 8 → q < x → x ≤ gl g → T' r i' x = T r i' x) (hB : ∀ k, 0 ≤ k → k < 6 → T k 0 q = -1 ∨ (q < T k 0 q ∧ T k 0 q ≤ gl g)) : rhs g T' r i q = rhs g T r i q := by
  obtain ⟨hL, ht, hR⟩ := hW
  obtain ⟨⟨z0, z1⟩, z2, z3, z4⟩ := hR r hr.1 hr.2
  unfold rhs
  by_cases e : i = gs g r
  · rw [if_pos e, if_pos e]
  · rw [if_neg e, if_neg e]
    by_cases w : ge g r i = 126
    · rw [if_pos w, if_pos w, h1 (by omega), first_congr h0]
      by_cases x : T r (i + 1) q ≠ -1
      · rw [if_pos x, if_pos x]
      · rw [if_neg x, if_neg x]
        rcases first_rng T q with y | ⟨y1, y2, y3⟩
        · have yn : ¬ first T q ≠ -1 := fun z => z y
          rw [if_neg yn, if_neg yn]
          by_cases v : q = gl g ∨ gt g q = gp g r
          · rw [if_pos v, if_pos v]
          · rw [if_neg v, if_neg v, hA i (q + 1) hi (by omega) (by omega) (by omega)]
        · have yn : first T q ≠ -1 := by omega
          rw [if_pos yn, if_pos yn, h0 _ y1 y2]
          rcases hB _ y1 y2 with u | u
          · exact absurd u y3
          · rw [hA i _ hi (by omega) u.1 u.2]
    · rw [if_neg w, if_neg w, eE_congr h0]
      rcases eE_b (g := g) (T := T) (e := ge g r i) hq hB with u | u
      · rw [if_pos u, if_pos u]
      · have un : ¬ eE g T (ge g r i) q = -1 := by omega
        rw [if_neg un, if_neg un, hA (i + 1) _ (by omega) (by omega) u.1 u.2]
theorem rhs_b {g : Gr} {T : Tb} (hW : gWF g) (hT : ∀ r i x, -1 ≤ T r i x ∧ T r i x ≤ 100) {r i q : Int} (hq : 0 ≤ q) (hq2 : q ≤ 100) : -1 ≤ rhs g T r i q ∧ rhs g T r i q ≤ 100 := by
  unfold rhs
  split
  · split
    · exact ⟨by decide, by decide⟩
    · omega
  · split
    · split
      · exact hT _ _ _
      · split
        · exact hT _ _ _
        · split
          · exact ⟨by decide, by decide⟩
          · exact hT _ _ _
    · split
      · exact ⟨by decide, by decide⟩
      · exact hT _ _ _
-- findEnds: p is the place; F1: whole islands of the rules below y; F2: the rests of rule r above i; F3: the rests of the rules below y
def F1 (g : Gr) (s0 : St) (p y : Int) (s : St) : Prop := M8 s ∧ (∀ q, q ≠ 85 → s q = s0 q) ∧ (∀ r i q, 0 ≤ r → r < 6 → 0 ≤ i → i ≤ 8 → 0 ≤ q → q ≤ 100 → (i ≠ 0 ∨ q ≠ p ∨ y ≤ r) → mt s r i q = mt s0 r i q) ∧ (∀ r, 0 ≤ r → r < y → mt s r 0 p = rhs g (mt s0) r 0 p)
def F2 (g : Gr) (s1 : St) (p r i : Int) (s : St) : Prop := M8 s ∧ (∀ q, q ≠ 85 → s q = s1 q) ∧ (∀ r' i' q, 0 ≤ r' → r' < 6 → 0 ≤ i' → i' ≤ 8 → 0 ≤ q → q ≤ 100 → (r' ≠ r ∨ i' = 0 ∨ q ≠ p ∨ i' ≤ i) → mt s r' i' q = mt s1 r' i' q) ∧ (∀ i', 1 ≤ i' → i < i' → i' ≤ gs g r → mt s r i' p = rhs g (mt s) r i' p)
def F3 (g : Gr) (s1 : St) (p y : Int) (s : St) : Prop := M8 s ∧ (∀ q, q ≠ 85 → s q = s1 q) ∧ (∀ r i q, 0 ≤ r → r < 6 → 0 ≤ i → i ≤ 8 → 0 ≤ q → q ≤ 100 → (i = 0 ∨ q ≠ p ∨ y ≤ r) → mt s r i q = mt s1 r i q) ∧ (∀ r, 0 ≤ r → r < y → ∀ i, 1 ≤ i → i ≤ gs g r → mt s r i p = rhs g (mt s) r i p)
theorem l_X7_findEnds_13 (s0 : St) (p : Int) (hW : gWF (mg (s0 81) 0)) (hp : 0 ≤ p) (hpl : p ≤ s0 81 0) (Q : St → Prop) (K : St → Prop) (hK : ∀ s, F1 (mg (s0 81) 0) s0 p 6 s → K s) : ∀ (n : Nat) (y : Int) (s : St), (6 - y).toNat < n → 0 ≤ y → y ≤ 6 → F1 (mg (s0 81) 0) s0 p y s → L_X7_findEnds_13 Q K p n y s := by
  obtain ⟨⟨t0, t1⟩, hT, hR⟩ := mgW hW
  intro n
  induction n with
  | zero => intro y s hn; exact absurd hn (Nat.not_lt_zero _)
  | succ n ih =>
    intro y s hn hy hy6 hI
    obtain ⟨i1, i2, i3, i4⟩ := id hI
    have s81 : s 81 = s0 81 := i2 81 (by decide)
    refine ⟨⟨by omega, by omega⟩, fun c => hK s ?_, fun c => ⟨trivial, fun r8 e8 => ⟨⟨hy, by omega, by decide, by rw [s81]; have := (hR y hy (by omega)).1; omega, hp, by rw [s81]; exact hpl, by rw [s81]; exact hW, i1⟩, fun r12 e12 => ?_⟩⟩⟩
    · rw [show y = 6 by omega] at hI
      exact hI
    · have e8 : r8 = 101 * (9 * y + 0) + p := e8
      have e12 : r12 = rhs (mg (s 81) 0) (mt s) y 0 p := e12
      rw [s81] at e12
      have e13 : rhs (mg (s0 81) 0) (mt s) y 0 p = rhs (mg (s0 81) 0) (mt s0) y 0 p := (rhs0 hW ⟨hy, by omega⟩ hp hpl).1 _ _ (fun x a b => i3 y 1 x hy (by omega) (by decide) (by decide) (by omega) (by rw [mg_L] at b; omega) (Or.inl (by decide)))
      refine ⟨⟨by omega, by omega⟩, fun s14 e14 => ih (y + 1) s14 (by omega) (by omega) (by omega) ?_⟩
      have rb := rhs_b hW (fun r i x => i1 _) (T := mt s) (r := y) (i := 0) hp (by omega)
      rw [← e12] at rb
      have c0 : ∀ r i q : Int, 0 ≤ i → i ≤ 8 → 0 ≤ q → q ≤ 100 → mt s14 r i q = if r = y ∧ i = 0 ∧ q = p then r12 else mt s r i q := fun r i q a b c d => by
        rw [e14, e8]
        exact mt_up ⟨by decide, by decide⟩ ⟨hp, by omega⟩ ⟨a, b⟩ ⟨c, d⟩
      refine ⟨by rw [e14]; exact M8_up i1 rb, fun q a => by rw [e14, up_n _ _ _ a]; exact i2 q a, fun r i q a b c d e f g => ?_, fun r a b => ?_⟩
      · rw [c0 r i q c d e f, if_neg (by omega)]
        exact i3 r i q a b c d e f (by omega)
      · rw [c0 r 0 p (by decide) (by decide) hp (by omega)]
        by_cases z : r = y
        · subst z
          rw [if_pos ⟨rfl, rfl, rfl⟩, e12, e13]
        · rw [if_neg (fun h => z h.1)]
          exact i4 r a (by omega)
theorem l_X7_findEnds_61 (s1 : St) (p r : Int) (hW : gWF (mg (s1 81) 0)) (hp : 0 ≤ p) (hpl : p ≤ s1 81 0) (hr : 0 ≤ r ∧ r < 6) (hB : ∀ k, 0 ≤ k → k < 6 → mt s1 k 0 p = -1 ∨ (p < mt s1 k 0 p ∧ mt s1 k 0 p ≤ s1 81 0)) (Q : St → Prop) (K : St → Prop) (hK : ∀ s, F2 (mg (s1 81) 0) s1 p r 0 s → K s) : ∀ (n : Nat) (i : Int) (s : St), i.toNat < n → 0 ≤ i → i ≤ gs (mg (s1 81) 0) r → F2 (mg (s1 81) 0) s1 p r i s → L_X7_findEnds_61 Q K p r n i s := by
  obtain ⟨⟨t0, t1⟩, hT, hR⟩ := mgW hW
  have gz : gs (mg (s1 81) 0) r = s1 81 (101 + r) := m7_s hr.1 hr.2
  obtain ⟨⟨z0, z1⟩, zs, ze, zf⟩ := hR r hr.1 hr.2
  intro n
  induction n with
  | zero => intro y s hn; exact absurd hn (Nat.not_lt_zero _)
  | succ n ih =>
    intro i s hn hi hiz hI
    obtain ⟨i1, i2, i3, i4⟩ := id hI
    have s81 : s 81 = s1 81 := i2 81 (by decide)
    refine ⟨⟨by omega, by omega⟩, fun c => hK s ?_, fun c => ⟨trivial, fun r24 e24 => ⟨⟨hr.1, hr.2, by omega, by rw [s81, ← gz]; exact hiz, hp, by rw [s81]; exact hpl, by rw [s81]; exact hW, i1⟩, fun r28 e28 => ?_⟩⟩⟩
    · rw [show i = 0 by omega] at hI
      exact hI
    · have e24 : r24 = 101 * (9 * r + i) + p := e24
      have e28 : r28 = rhs (mg (s 81) 0) (mt s) r i p := e28
      rw [s81] at e28
      refine ⟨⟨by omega, by omega⟩, fun s30 e30 => ih (i + (-1)) s30 (by omega) (by omega) (by omega) ?_⟩
      have rb := rhs_b hW (fun r i x => i1 _) (T := mt s) (r := r) (i := i) hp (by omega)
      rw [← e28] at rb
      have c0 : ∀ r' i' q : Int, 0 ≤ i' → i' ≤ 8 → 0 ≤ q → q ≤ 100 → mt s30 r' i' q = if r' = r ∧ i' = i ∧ q = p then r28 else mt s r' i' q := fun r' i' q a b c d => by
        rw [e30, e24]
        exact mt_up ⟨by omega, by omega⟩ ⟨hp, by omega⟩ ⟨a, b⟩ ⟨c, d⟩
      refine ⟨by rw [e30]; exact M8_up i1 rb, fun q a => by rw [e30, up_n _ _ _ a]; exact i2 q a, fun r' i' q a b c d e f g => ?_, fun i' a b d => ?_⟩
      · rw [c0 r' i' q c d e f, if_neg (by omega)]
        exact i3 r' i' q a b c d e f (by omega)
      · have hc : rhs (mg (s1 81) 0) (mt s30) r i' p = rhs (mg (s1 81) 0) (mt s) r i' p := by
          refine rhs_congr hW hr (by omega) d hp hpl (fun k u v => ?_) (fun u => ?_) (fun i2 x u v w y => ?_) (fun k u v => ?_)
          · rw [c0 k 0 p (by decide) (by decide) hp (by omega), if_neg (by omega)]
          · rw [c0 r (i' + 1) p (by omega) (by omega) hp (by omega), if_neg (by omega)]
          · rw [mg_L] at y
            rw [c0 r i2 x u v (by omega) (by omega), if_neg (by omega)]
          · rw [i3 k 0 p u v (by decide) (by decide) hp (by omega) (Or.inr (Or.inl rfl))]
            exact hB k u v
        rw [hc]
        by_cases z : i' = i
        · subst z
          rw [c0 r i' p (by omega) (by omega) hp (by omega), if_pos ⟨rfl, rfl, rfl⟩, e28]
        · rw [c0 r i' p (by omega) (by omega) hp (by omega), if_neg (fun h => z h.2.1)]
          exact i4 i' a (by omega) d
theorem l_X7_findEnds_45 (s1 : St) (p : Int) (hW : gWF (mg (s1 81) 0)) (hp : 0 ≤ p) (hpl : p ≤ s1 81 0) (hB : ∀ k, 0 ≤ k → k < 6 → mt s1 k 0 p = -1 ∨ (p < mt s1 k 0 p ∧ mt s1 k 0 p ≤ s1 81 0)) (Q : St → Prop) (K : St → Prop) (hK : ∀ s, F3 (mg (s1 81) 0) s1 p 6 s → K s) : ∀ (n : Nat) (y : Int) (s : St), (6 - y).toNat < n → 0 ≤ y → y ≤ 6 → F3 (mg (s1 81) 0) s1 p y s → L_X7_findEnds_45 Q K p n y s := by
  obtain ⟨⟨t0, t1⟩, hT, hR⟩ := mgW hW
  intro n
  induction n with
  | zero => intro y s hn; exact absurd hn (Nat.not_lt_zero _)
  | succ n ih =>
    intro y s hn hy hy6 hI
    obtain ⟨i1, i2, i3, i4⟩ := id hI
    have s81 : s 81 = s1 81 := i2 81 (by decide)
    refine ⟨⟨by omega, by omega⟩, fun cc => hK s ?_, fun cc => ⟨⟨by omega, by omega⟩, ?_⟩⟩
    · rw [show y = 6 by omega] at hI
      exact hI
    · have hy5 : y < 6 := by omega
      have gz : gs (mg (s1 81) 0) y = s1 81 (101 + y) := m7_s hy hy5
      obtain ⟨⟨z0, z1⟩, zs, ze, zf⟩ := hR y hy hy5
      have hBs : ∀ k, 0 ≤ k → k < 6 → mt s k 0 p = -1 ∨ (p < mt s k 0 p ∧ mt s k 0 p ≤ s 81 0) := fun k u v => by
        rw [i3 k 0 p u v (by decide) (by decide) hp (by omega) (Or.inl rfl), s81]
        exact hB k u v
      refine ⟨9, l_X7_findEnds_61 s p y (by rw [s81]; exact hW) hp (by rw [s81]; exact hpl) ⟨hy, hy5⟩ hBs Q _ (fun t hF => ih (y + 1) t (by omega) (by omega) (by omega) ?_) 9 _ s (by rw [s81]; omega) (by rw [s81]; omega) (by rw [s81, gz]; omega) ⟨i1, fun _ _ => rfl, fun _ _ _ _ _ _ _ _ _ _ => rfl, fun i' a b d => by rw [s81] at b d; rw [gz] at d; omega⟩⟩
      obtain ⟨f1, f2, f3, f4⟩ := hF
      rw [s81] at f4
      refine ⟨f1, fun q a => by rw [f2 q a]; exact i2 q a, fun r i q a b c d e f g => ?_, fun r a b i c d => ?_⟩
      · rw [f3 r i q a b c d e f (by omega)]
        exact i3 r i q a b c d e f (by omega)
      · by_cases z : r = y
        · subst z
          exact f4 i c (by omega) d
        · have gr : gs (mg (s1 81) 0) r = s1 81 (101 + r) := m7_s a (by omega)
          have rz := (hR r a (by omega)).1
          rw [f3 r i p a (by omega) (by omega) (by omega) hp (by omega) (Or.inl z), i4 r a (by omega) i c d]
          refine (rhs_congr hW ⟨a, by omega⟩ (by omega) d hp hpl (fun k u v => ?_) (fun u => ?_) (fun i2 x u v w y => ?_) (fun k u v => ?_)).symm
          · exact f3 k 0 p u v (by decide) (by decide) hp (by omega) (Or.inr (Or.inl rfl))
          · exact f3 r (i + 1) p a (by omega) (by omega) (by omega) hp (by omega) (Or.inl z)
          · rw [mg_L] at y
            exact f3 r i2 x a (by omega) u v (by omega) (by omega) (Or.inl z)
          · rw [← s81]
            exact hBs k u v
def FQ (g : Gr) (σ : St) (p : Int) (s : St) : Prop := M8 s ∧ (∀ q, q ≠ 85 → s q = σ q) ∧ ∀ q, p < q → q ≤ gl g → GoodAt g (mt s) q
theorem l_X7_findEnds_7 (σ : St) (hW : gWF (mg (σ 81) 0)) (Q : St → Prop) (hQ : ∀ s, FQ (mg (σ 81) 0) σ (-1) s → Q s) : ∀ (n : Nat) (p : Int) (s : St), (p + 1).toNat < n → -1 ≤ p → p ≤ σ 81 0 → FQ (mg (σ 81) 0) σ p s → L_X7_findEnds_7 Q n p s := by
  obtain ⟨⟨t0, t1⟩, hT, hR⟩ := mgW hW
  intro n
  induction n with
  | zero => intro p s hn; exact absurd hn (Nat.not_lt_zero _)
  | succ n ih =>
    intro p s hn h0 hl hI
    obtain ⟨i1, i2, i3⟩ := id hI
    have s81 : s 81 = σ 81 := i2 81 (by decide)
    refine ⟨⟨by omega, by omega⟩, fun c => hQ s ?_, fun c => ?_⟩
    · rw [show p = -1 by omega] at hI
      exact hI
    · have hp : 0 ≤ p := by omega
      have BD := bnd hW (p := p) (by omega) i3
      refine ⟨7, l_X7_findEnds_13 s p (by rw [s81]; exact hW) hp (by rw [s81]; exact hl) Q _ (fun s1 hF1 => ?_) 7 0 s (by decide) (by decide) (by decide) ⟨i1, fun _ _ => rfl, fun _ _ _ _ _ _ _ _ _ _ => rfl, fun r a b => absurd a (by omega)⟩⟩
      obtain ⟨f1, f2, f3, f4⟩ := hF1
      rw [s81] at f4
      have s181 : s1 81 = σ 81 := by rw [f2 81 (by decide)]; exact s81
      have hB : ∀ k, 0 ≤ k → k < 6 → mt s1 k 0 p = -1 ∨ (p < mt s1 k 0 p ∧ mt s1 k 0 p ≤ σ 81 0) := fun k u v => by
        rw [f4 k u v]
        refine (rhs0 hW ⟨u, v⟩ hp hl).2 (mt s) (fun x z a b => ?_)
        exact (BD _ x (Nat.le_refl _) a b).2 k u v 1 (by decide) z
      refine ⟨7, l_X7_findEnds_45 s1 p (by rw [s181]; exact hW) hp (by rw [s181]; exact hl) (by rw [s181]; exact hB) Q _ (fun t hF3 => ih (p + (-1)) t (by omega) (by omega) (by omega) ?_) 7 0 s1 (by decide) (by decide) (by decide) ⟨f1, fun _ _ => rfl, fun _ _ _ _ _ _ _ _ _ _ => rfl, fun r a b => absurd a (by omega)⟩⟩
      obtain ⟨g1, g2, g3, g4⟩ := hF3
      rw [s181] at g4
      have ctq : ∀ r i x, 0 ≤ r → r < 6 → 0 ≤ i → i ≤ 8 → p < x → x ≤ σ 81 0 → mt t r i x = mt s r i x := fun r i x a b c d e f => by
        rw [g3 r i x a b c d (by omega) (by omega) (Or.inr (Or.inl (by omega))), f3 r i x a b c d (by omega) (by omega) (Or.inr (Or.inl (by omega)))]
      refine ⟨g1, fun q a => by rw [g2 q a, f2 q a]; exact i2 q a, fun q a b => ?_⟩
      by_cases qp : q = p
      · subst qp
        intro r u v i e f
        by_cases z : i = 0
        · subst z
          rw [g3 r 0 q u v (by decide) (by decide) hp (by rw [mg_L] at b; omega) (Or.inl rfl), f4 r u v]
          refine ((rhs0 hW ⟨u, v⟩ hp b).1 _ _ (fun x c d => ?_)).symm
          exact ctq r 1 x u v (by decide) (by decide) c d
        · exact g4 r u v i (by omega) f
      · have hBq := (BD _ q (Nat.le_refl _) (by omega) b).1
        exact goodAt_congr hW (by omega) b (fun r i x u v c d e f => ctq r i x u v c d (by omega) f) hBq (i3 q (by omega) b)
theorem v_X7_findEnds (σ : St) (hp : pre_X7_findEnds σ) : V_X7_findEnds σ (post_X7_findEnds σ) := by
  obtain ⟨hW, hM⟩ := hp
  obtain ⟨⟨t0, t1⟩, hT, hR⟩ := mgW hW
  refine ⟨(σ 81 0 + 1).toNat + 1, l_X7_findEnds_7 σ hW _ (fun s hF => ?_) _ (σ 81 0) σ (by omega) (by omega) (by omega) ⟨hM, fun _ _ => rfl, fun q a b => by rw [mg_L] at b; omega⟩⟩
  obtain ⟨f1, f2, f3⟩ := hF
  exact ⟨f1, f2, fun q a b => f3 q (by omega) b⟩
