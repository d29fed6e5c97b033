/-- how many of the first n places p holds of -/
def cb (p : Nat → Bool) : Nat → Nat
  | 0 => 0
  | n + 1 => cb p n + if p n = true then 1 else 0
theorem cenum (p : Nat → Bool) : ∀ m, ∃ e : Nat → Nat, (∀ i j, i < cb p m → j < cb p m → e i = e j → i = j) ∧ (∀ i, i < cb p m → e i < m ∧ p (e i) = true) ∧ (∀ k, k < m → p k = true → ∃ i, i < cb p m ∧ e i = k) := by
  intro m
  induction m with
  | zero => exact ⟨fun _ => 0, fun i j a => absurd a (Nat.not_lt_zero _), fun i a => absurd a (Nat.not_lt_zero _), fun k a => absurd a (Nat.not_lt_zero _)⟩
  | succ m ih =>
    obtain ⟨e, e1, e2, e3⟩ := ih
    have ec : cb p (m + 1) = cb p m + if p m = true then 1 else 0 := rfl
    by_cases c : p m = true
    · rw [if_pos c] at ec
      rw [ec]
      refine ⟨fun i => if i = cb p m then m else e i, fun i j a b h => ?_, fun i a => ?_, fun k a b => ?_⟩
      · dsimp only at h
        by_cases x : i = cb p m
        · by_cases y : j = cb p m
          · omega
          · rw [if_pos x, if_neg y] at h
            have := (e2 j (by omega)).1
            omega
        · by_cases y : j = cb p m
          · rw [if_neg x, if_pos y] at h
            have := (e2 i (by omega)).1
            omega
          · rw [if_neg x, if_neg y] at h
            exact e1 i j (by omega) (by omega) h
      · dsimp only
        by_cases x : i = cb p m
        · rw [if_pos x]
          exact ⟨by omega, c⟩
        · rw [if_neg x]
          have := e2 i (by omega)
          exact ⟨by omega, this.2⟩
      · by_cases x : k = m
        · exact ⟨cb p m, by omega, by dsimp only; rw [if_pos rfl, x]⟩
        · obtain ⟨i, i1, i2⟩ := e3 k (by omega) b
          exact ⟨i, by omega, by dsimp only; rw [if_neg (by omega), i2]⟩
    · rw [if_neg c] at ec
      rw [ec]
      refine ⟨e, fun i j a b h => e1 i j (by omega) (by omega) h, fun i a => ?_, fun k a b => ?_⟩
      · have := e2 i (by omega)
        exact ⟨by omega, this.2⟩
      · by_cases x : k = m
        · rw [x] at b
          exact absurd b c
        · obtain ⟨i, i1, i2⟩ := e3 k (by omega) b
          exact ⟨i, by omega, i2⟩
theorem cb_le {p q : Nat → Bool} {m n : Nat} {a b : Nat → Int} (hi : ∀ i j, i < m → j < m → a i = a j → i = j) (hx : ∀ i, i < m → p i = true → ∃ j, j < n ∧ q j = true ∧ b j = a i) : cb p m ≤ cb q n := by
  obtain ⟨e, e1, e2, e3⟩ := cenum p m
  obtain ⟨f, f1, f2, f3⟩ := cenum q n
  refine pig (cb q n) (cb p m) (fun i => a (e i)) (fun j => b (f j)) (fun i j x y h => ?_) (fun i x => ?_)
  · exact e1 i j x y (hi _ _ (e2 i x).1 (e2 j y).1 h)
  · obtain ⟨j, j1, j2, j3⟩ := hx (e i) (e2 i x).1 (e2 i x).2
    obtain ⟨k, k1, k2⟩ := f3 j j1 j2
    exact ⟨k, k1, by rw [k2, j3]⟩
theorem cb_lt {q : Nat → Bool} {n : Nat} {j : Nat} (hj : j ≤ n) (h : ∀ i, i < n → (q i = true ↔ i < j)) : cb q n = j := by
  have key : ∀ k, k ≤ n → cb q k = min k j := by
    intro k
    induction k with
    | zero => intro _; show 0 = min 0 j; omega
    | succ k ih =>
      intro hk
      have ec : cb q (k + 1) = cb q k + if q k = true then 1 else 0 := rfl
      rw [ec, ih (by omega)]
      by_cases c : k < j
      · rw [if_pos ((h k (by omega)).2 c)]
        omega
      · rw [if_neg (fun z => c ((h k (by omega)).1 z))]
        omega
  rw [key n (Nat.le_refl _)]
  omega
/-- every node of the class has been found -/
theorem PO_back {g : Gr} {T : Tb} {σ : St} (h : PO g T σ) (hT : ∀ k q, To g T k q → ∃ f, (0 ≤ f ∧ f < σ 80 12) ∧ σ 87 f = q ∧ σ 86 f = k ∧ σ 88 f = -1) (hC : ∀ f, 0 ≤ f → f < σ 80 12 → ∀ k q, Ch g T (σ 86 f) (σ 87 f) k q → ∃ i, (0 ≤ i ∧ i < σ 80 12) ∧ σ 87 i = q ∧ σ 86 i = k ∧ σ 88 i = f) : ∀ (n : Nat) (j : Int), j.toNat < n → 0 ≤ j → j < σ 61 11 → ∃ f, (0 ≤ f ∧ f < σ 80 12) ∧ σ 87 f = σ 65 j ∧ σ 86 f = σ 63 j := by
  intro n
  induction n with
  | zero => intro j hn; exact absurd hn (Nat.not_lt_zero _)
  | succ n ih =>
    intro j hn h0 h1
    obtain ⟨v1, v2, v3, v4, v5, v6, v7⟩ := h.2.1 j h0 h1
    rcases v5 with ⟨w1, w2, w3⟩ | ⟨w1, w2, w3⟩
    · obtain ⟨f, f1, f2, f3, f4⟩ := hT _ _ w2
      exact ⟨f, f1, f2, f3⟩
    · obtain ⟨f, f1, f2, f3⟩ := ih (σ 69 j) (by omega) w1.1 (by omega)
      rw [← f2, ← f3] at w2
      obtain ⟨i, i1, i2, i3, i4⟩ := hC f f1.1 f1.2 _ _ w2
      exact ⟨i, i1, i2, i3⟩
theorem isN_uniq {g : Gr} {T : Tb} {r s v w : Int} (h : isN g T r s v) (h' : isN g T r s w) : v = w := by
  have mono1 : ∀ n d, (tr g T r (0, s) n).1 ≤ (tr g T r (0, s) (n + d)).1 := by
    intro n d
    induction d with
    | zero => exact Int.le_refl _
    | succ d ih =>
      refine Int.le_trans ih ?_
      show _ ≤ (nx g T r (tr g T r (0, s) (n + d))).1
      unfold nx
      split
      · exact Int.le_refl _
      · split
        · split
          · dsimp only; omega
          · split
            · exact Int.le_refl _
            · exact Int.le_refl _
        · dsimp only; omega
  have pos : ∀ n, 0 ≤ (tr g T r (0, s) n).1 := fun n => by
    have := mono1 0 n
    rw [Nat.zero_add] at this
    exact this
  have step : ∀ n, (tr g T r (0, s) n).1 < gs g r → ge g r (tr g T r (0, s) n).1 = 35 → (tr g T r (0, s) (n + 1)).1 = (tr g T r (0, s) n).1 + 1 := by
    intro n a b
    show (nx g T r (tr g T r (0, s) n)).1 = _
    unfold nx
    rw [if_neg (by omega), if_neg (by rw [b]; decide)]
  rcases h with ⟨a1, a2⟩ | ⟨n, a1, a2, a3, a4⟩
  · rcases h' with ⟨b1, b2⟩ | ⟨m, b1, b2, b3, b4⟩
    · omega
    · exact absurd b2 (a2 _ (pos m) b1)
  · rcases h' with ⟨b1, b2⟩ | ⟨m, b1, b2, b3, b4⟩
    · exact absurd a2 (b2 _ (pos n) a1)
    · have e : (tr g T r (0, s) n).1 = (tr g T r (0, s) m).1 := by
        rcases (show (tr g T r (0, s) n).1 < (tr g T r (0, s) m).1 ∨ (tr g T r (0, s) n).1 = (tr g T r (0, s) m).1 ∨ (tr g T r (0, s) m).1 < (tr g T r (0, s) n).1 by omega) with c | c | c
        · exact absurd a2 (b3 _ (pos n) c)
        · exact c
        · exact absurd b2 (a3 _ (pos m) c)
      have nm : n = m := by
        rcases Nat.lt_trichotomy n m with c | c | c
        · exfalso
          have s1 := step n a1 a2
          have s2 := mono1 (n + 1) (m - (n + 1))
          rw [show n + 1 + (m - (n + 1)) = m by omega] at s2
          omega
        · exact c
        · exfalso
          have s1 := step m b1 b2
          have s2 := mono1 (m + 1) (n - (m + 1))
          rw [show m + 1 + (n - (m + 1)) = n by omega] at s2
          omega
      rw [a4, b4, nm]
/-- what a state in which both have parsed says -/
theorem QP.all {σ : St} (h : QP σ) : (0 ≤ σ 80 12 ∧ σ 80 12 ≤ 100) ∧ (0 ≤ σ 61 11 ∧ σ 61 11 ≤ 100) ∧ σ 80 12 = σ 61 11 ∧
    (∀ f, 0 ≤ f → f < σ 80 12 → ∃ j, atN σ f j) ∧ (∀ j, 0 ≤ j → j < σ 61 11 → ∃ f, atN σ f j) ∧
    (∀ f j, atN σ f j → σ 86 f = σ 63 j ∧ σ 89 f = σ 73 j ∧ σ 90 f = σ 75 j ∧ mt σ (σ 86 f) 0 (σ 87 f) = σ 67 j ∧ ((σ 88 f = -1 ∧ σ 69 j = -1) ∨ (σ 88 f < f ∧ σ 69 j < j ∧ atN σ (σ 88 f) (σ 69 j)))) ∧
    (∀ f f' j, atN σ f j → atN σ f' j → f = f') ∧ (∀ f j j', atN σ f j → atN σ f j' → j = j') ∧
    (σ 80 13 = σ 61 12 ∧ σ 80 14 = σ 61 13 ∧ σ 80 15 = σ 61 15) := by
  obtain ⟨⟨hW, hM, hF, hE⟩, hMC, f0, hB, hT, hC, hN, hV⟩ := h
  have hG : Good (mg (σ 81) 0) (ct σ) := by rw [← hE]; exact hF.1.2.2.1
  have hP : PO (mg (σ 81) 0) (ct σ) σ := by rw [← hE]; exact hF.2
  obtain ⟨⟨t0, t1⟩, hTx, hR⟩ := mgW hW
  have pl := hP.1
  rw [mg_L] at pl
  have le := FB_le hP hB
  have ge' : σ 61 11 ≤ σ 80 12 := by
    have := pig (σ 80 12).toNat (σ 61 11).toNat (fun i => σ 65 i) (fun j => σ 87 j) (fun i j a b e => ?_) (fun i a => ?_)
    · omega
    · have := PO_inj hP (i := (i : Int)) (j := (j : Int)) (by omega) (by omega) e
      omega
    · obtain ⟨f, f1, f2, f3⟩ := PO_back hP hT hC _ (i : Int) (Nat.lt_succ_self _) (by omega) (by omega)
      exact ⟨f.toNat, by omega, by
        show σ 65 (i : Int) = σ 87 ((f.toNat : Nat) : Int)
        rw [Int.toNat_of_nonneg f1.1, f2]⟩
  have fwd : ∀ f, 0 ≤ f → f < σ 80 12 → ∃ j, atN σ f j ∧ σ 63 j = σ 86 f ∧ (σ 88 f = -1 → σ 69 j = -1) ∧ (σ 88 f ≠ -1 → (0 ≤ σ 69 j ∧ σ 69 j < j) ∧ σ 65 (σ 69 j) = σ 87 (σ 88 f)) := fun f a b => by
    obtain ⟨j, j1, j2, j3, j4, j5⟩ := FB_map hP hB _ f (Nat.lt_succ_self _) a b
    exact ⟨j, ⟨⟨a, b⟩, j1, j2⟩, j3, j4, j5⟩
  have uj : ∀ f j j', atN σ f j → atN σ f j' → j = j' := fun f j j' a b => PO_inj hP a.2.1 b.2.1 (a.2.2.trans b.2.2.symm)
  refine ⟨⟨f0, by omega⟩, ⟨pl.1, by omega⟩, by omega, fun f a b => ?_, fun j a b => ?_, fun f j h => ?_, fun f f' j a b => ?_, uj, ?_⟩
  · obtain ⟨j, j1, -⟩ := fwd f a b
    exact ⟨j, j1⟩
  · obtain ⟨f, f1, f2, f3⟩ := PO_back hP hT hC _ j (Nat.lt_succ_self _) a b
    exact ⟨f, f1, ⟨a, b⟩, f2.symm⟩
  · obtain ⟨j', j1, j2, j3, j4⟩ := fwd f h.1.1 h.1.2
    have ej := uj f j j' h j1
    subst ej
    obtain ⟨v1, v2, v3, v4, v5, ⟨N, v6, v8⟩, v7⟩ := hP.2.1 j h.2.1.1 h.2.1.2
    obtain ⟨⟨M, m1, m2⟩, m3⟩ := hN f h.1.1 h.1.2
    obtain ⟨b1, b2, b3, b4⟩ := hB.1 f h.1.1 h.1.2
    rw [mg_L] at b2
    rw [h.2.2, j2] at v6 v8 v7 v3
    refine ⟨j2.symm, ?_, isN_uniq m3 v7, ?_, ?_⟩
    · rw [m2, v8]
      exact wsum_halt m1 v6
    · rw [hMC.2.2.2 _ b2.1 (by omega) _ b1.1 b1.2 0 (by decide) (by rw [m7_s b1.1 b1.2]; exact (hR _ b1.1 b1.2).1.1)]
      exact v3
    · by_cases z : σ 88 f = -1
      · exact Or.inl ⟨z, j3 z⟩
      · obtain ⟨w1, w2⟩ := j4 z
        have p := (b4.resolve_left (fun y => z y.1)).1
        have q1 := h.1.2
        have q2 := h.2.1.2
        exact Or.inr ⟨p.2, w1.2, ⟨p.1, by omega⟩, ⟨w1.1, by omega⟩, w2⟩
  · exact FB_inj hP hB _ f f' (Nat.lt_succ_self _) a.1.1 a.1.2 b.1.1 b.1.2 (a.2.2.symm.trans b.2.2)
  · obtain ⟨N, n1, n2, n3, n4⟩ := hV
    obtain ⟨M, m1, m2, m3, m4⟩ := hP.2.2.2.2.2
    rw [tcn_uniq n1 m1] at n2 n3 n4
    exact ⟨n2.trans m2.symm, n3.trans m3.symm, n4.trans m4.symm⟩
