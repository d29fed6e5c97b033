-- the calls that ask the parse: class and reference answer alike and keep the invariant
theorem Inv.toRP {k : Nat} {σ s s1 : St} (h : Inv k σ) (h1 : RFP σ s) (n1 : ∀ q, q ≠ 51 → s1 q = s q) : RP s1 := by
  obtain ⟨r1, r2, r3, r4⟩ := h1
  have e81 : s1 81 = σ 81 := by rw [n1 81 (by decide), r1 81 (by decide) (by decide) (by decide) (by decide) (by decide) (by decide)]
  have e85 : s1 85 = σ 85 := by rw [n1 85 (by decide), r1 85 (by decide) (by decide) (by decide) (by decide) (by decide) (by decide)]
  have lo : ∀ q, 1 ≤ q → q ≤ 9 → s1 q = σ q := fun q a b => by rw [n1 q (by omega), r1 q (by omega) (by omega) (by omega) (by omega) (by omega) (by omega)]
  have hG := IG_c lo e81 h.1
  have e := hG.2.eq
  refine ⟨by rw [← e]; exact hG.1.g, ?_, r4.keep (fun q a b c d f => Or.inl (n1 q f)), e⟩
  unfold M8
  rw [e85]
  exact h.2.2.2.2.2.1
theorem Inv.ask {k : Nat} {σ s s1 t s2 : St} (h : Inv k σ) (h1 : RFP σ s) (n1 : ∀ q, q ≠ 51 → s1 q = s q) (h2 : PP s1 t) (n2 : ∀ q, q ≠ 84 → q ≠ 80 → s2 q = t q) (n80 : s2 80 2 = t 80 2 ∧ s2 80 4 = t 80 4) (hE : IE (k + 1) s2) : Inv (k + 1) s2 := by
  obtain ⟨r1, r2, r3, r4⟩ := h1
  obtain ⟨p1, p2, p3, -, -⟩ := h2
  have n : ∀ q, q ≠ 0 → q ≠ 51 → (q ≤ 53 ∨ (81 ≤ q ∧ q ≤ 83)) → s2 q = σ q := fun q a b c => by
    rw [n2 q (by omega) (by omega), p1 q (by omega) (by omega) (by omega) (by omega) (by omega) (by omega) (by omega), n1 q b, r1 q a (by omega) (by omega) (by omega) (by omega) (by omega)]
  have e0 : s2 0 = s 0 := by rw [n2 0 (by decide) (by decide), p1 0 (by decide) (by decide) (by decide) (by decide) (by decide) (by decide) (by decide), n1 0 (by decide)]
  have e80 : ∀ j, j = 2 ∨ j = 4 → s2 80 j = σ 80 j := fun j a => by
    have : s2 80 j = t 80 j := by
      rcases a with a | a
      · rw [a]
        exact n80.1
      · rw [a]
        exact n80.2
    rw [this, p2 j (by omega) (by omega) (by omega) (by omega), n1 80 (by decide), r1 80 (by decide) (by decide) (by decide) (by decide) (by decide) (by decide)]
  have fr : Fresh s2 := p3.2.2.1.keep (fun q a b c d f => Or.inl (n2 q (by omega) (by omega)))
  refine ⟨IG_c (fun q a b => n q (by omega) (by omega) (by omega)) (n 81 (by decide) (by decide) (by decide)) h.1, IB_c (by rw [e0, r2 6 (by decide)]) (n 49 (by decide) (by decide) (by decide)) (n 83 (by decide) (by decide) (by decide)) (e80 4 (Or.inr rfl)) h.2.1, hE, IH_c (by rw [n 10 (by decide) (by decide) (by decide)]) (by rw [n 10 (by decide) (by decide) (by decide)]) (fun q a b => n q (by omega) (by omega) (by omega)) (n 82 (by decide) (by decide) (by decide)) (e80 2 (Or.inl rfl)) h.2.2.2.1, fr.1.1, ?_, Or.inl (by rw [e0]; exact r3), fun _ => fr⟩
  unfold M8
  rw [n2 85 (by decide) (by decide)]
  exact p3.2.1
theorem IE_ask {k : Nat} {σ s t : St} (h : Inv k σ) (h1 : RFP σ s) (h2 : PP s t) : IE (k + 1) t := by
  have a : t 51 = σ 51 := by rw [h2.1 51 (by decide) (by decide) (by decide) (by decide) (by decide) (by decide) (by decide), h1.1 51 (by decide) (by decide) (by decide) (by decide) (by decide) (by decide)]
  have b : t 84 = σ 84 := by rw [h2.1 84 (by decide) (by decide) (by decide) (by decide) (by decide) (by decide) (by decide), h1.1 84 (by decide) (by decide) (by decide) (by decide) (by decide) (by decide)]
  exact IE_c a b h.2.2.1
theorem IE_askF {k : Nat} {σ s t : St} (h : Inv k σ) (h1 : RFP σ s) (h2 : PP (eff_X6_fail (-2) s) t) : IE (k + 1) (eff_X7_fail (-2) t) := by
  have f51 : eff_X6_fail (-2) s 51 = ui (s 51) 0 (s 51 0 + 1) := up_s _ _ _ _
  have f84 : eff_X6_fail (-2) s 84 = s 84 := up_n _ _ _ (by decide)
  have a : t 51 = ui (σ 51) 0 (σ 51 0 + 1) := by rw [h2.1 51 (by decide) (by decide) (by decide) (by decide) (by decide) (by decide) (by decide), f51, h1.1 51 (by decide) (by decide) (by decide) (by decide) (by decide) (by decide)]
  have b : t 84 = σ 84 := by rw [h2.1 84 (by decide) (by decide) (by decide) (by decide) (by decide) (by decide) (by decide), f84, h1.1 84 (by decide) (by decide) (by decide) (by decide) (by decide) (by decide)]
  have c : eff_X7_fail (-2) t 84 = ui (t 84) 0 (t 84 0 + 1) := up_s _ _ _ _
  have d : eff_X7_fail (-2) t 51 = t 51 := up_n _ _ _ (by decide)
  intro j x y
  rw [c, d, a, b]
  obtain ⟨g1, g2, g3⟩ := h.2.2.1 j x y
  by_cases z : j = 0
  · subst z
    rw [ui_s, ui_s]
    omega
  · rw [ui_n _ _ z, ui_n _ _ z]
    omega
theorem fail6_n (s : St) : ∀ q, q ≠ 51 → eff_X6_fail (-2) s q = s q := fun q a => up_n _ _ _ a
theorem fail7_n (s : St) : ∀ q, q ≠ 84 → eff_X7_fail (-2) s q = s q := fun q a => up_n _ _ _ a
theorem Inv.ask0 {k : Nat} {σ s t : St} (h : Inv k σ) (h1 : RFP σ s) (h2 : PP s t) : Inv (k + 1) t := h.ask h1 (fun _ _ => rfl) h2 (fun _ _ _ => rfl) ⟨rfl, rfl⟩ (IE_ask h h1 h2)
theorem Inv.askF {k : Nat} {σ s t : St} (h : Inv k σ) (h1 : RFP σ s) (h2 : PP (eff_X6_fail (-2) s) t) : Inv (k + 1) (eff_X7_fail (-2) t) := h.ask h1 (fail6_n s) h2 (fun q a _ => fail7_n t q a) ⟨by rw [fail7_n t 80 (by decide)], by rw [fail7_n t 80 (by decide)]⟩ (IE_askF h h1 h2)
theorem PP.row {s t : St} (h : PP s t) {q : Nat} (a : q < 80) : t q = s q := h.1 q (by omega) (by omega) (by omega) (by omega) (by omega) (by omega) (by omega)
theorem st_node {k : Nat} {σ : St} {a : Int} (K : Nat) (hK : K < 80 ∧ K ≠ 51) (h : Inv k σ) (ia : inR a) : (RF σ ∧ inR a) ∧ ∀ r s1, (∃ s, RFP σ s ∧ ((0 ≤ a ∧ a < s 61 11) → r = s K a ∧ s1 = s) ∧ (¬ (0 ≤ a ∧ a < s 61 11) → r = -2 ∧ s1 = eff_X6_fail (-2) s)) → (RP s1 ∧ inR a) ∧ ∀ r' s2, (∃ s, PP s1 s ∧ ((0 ≤ a ∧ a < s 61 11) → r' = s K a ∧ s2 = s) ∧ (¬ (0 ≤ a ∧ a < s 61 11) → r' = -2 ∧ s2 = eff_X7_fail (-2) s)) → r' = r ∧ Inv (k + 1) s2 := by
  refine ⟨⟨h.RF, ia⟩, fun r s1 hp => ?_⟩
  obtain ⟨s, h1, hv, hn⟩ := hp
  by_cases v : 0 ≤ a ∧ a < s 61 11
  · obtain ⟨er, es⟩ := hv v
    subst es
    refine ⟨⟨h.toRP h1 (fun _ _ => rfl), ia⟩, fun r' s2 hq => ?_⟩
    obtain ⟨t, h2, gv, gn⟩ := hq
    obtain ⟨er', es'⟩ := gv (by rw [h2.row (by decide)]; exact v)
    subst es'
    exact ⟨by rw [er', er, h2.row hK.1], h.ask0 h1 h2⟩
  · obtain ⟨er, es⟩ := hn v
    subst es
    refine ⟨⟨h.toRP h1 (fail6_n s), ia⟩, fun r' s2 hq => ?_⟩
    obtain ⟨t, h2, gv, gn⟩ := hq
    obtain ⟨er', es'⟩ := gn (by rw [h2.row (by decide), fail6_n s 61 (by decide)]; exact v)
    subst es'
    exact ⟨er'.trans er.symm, h.askF h1 h2⟩
theorem st_cnt {k : Nat} {σ : St} (K : Int) (h : Inv k σ) : RF σ ∧ ∀ r s1, (RFP σ s1 ∧ r = s1 61 K) → RP s1 ∧ ∀ r' s2, (PP s1 s2 ∧ r' = s2 61 K) → r' = r ∧ Inv (k + 1) s2 := by
  refine ⟨h.RF, fun r s1 hp => ⟨h.toRP hp.1 (fun _ _ => rfl), fun r' s2 hq => ⟨?_, h.ask0 hp.1 hq.1⟩⟩⟩
  rw [hq.2, hp.2, hq.1.row (by decide)]
theorem inn_c {s t : St} (h1 : t 65 = s 65) (h2 : t 67 = s 67) (p : Int) : ∀ n, inn t p n = inn s p n := by
  intro n
  induction n with
  | zero => rfl
  | succ n ih =>
    show (if t 65 n ≤ p ∧ p < t 67 n then (n : Int) else inn t p n) = if s 65 n ≤ p ∧ p < s 67 n then (n : Int) else inn s p n
    rw [h1, h2, ih]
theorem cntr_c {s t : St} (h : t 63 = s 63) (x : Int) : ∀ n, cntr t x n = cntr s x n := by
  intro n
  induction n with
  | zero => rfl
  | succ n ih =>
    show (cntr t x n + if t 63 n = x then 1 else 0) = cntr s x n + if s 63 n = x then 1 else 0
    rw [h, ih]
theorem mixr_c {f g : Int → Int} (h : Int) : ∀ n : Nat, (∀ j : Nat, j < n → f j = g j) → mixr f h n = mixr g h n := by
  intro n
  induction n with
  | zero => intro _; rfl
  | succ n ih =>
    intro e
    show 31 * mixr f h n + f n = 31 * mixr g h n + g n
    rw [ih (fun j a => e j (by omega)), e n (by omega)]
theorem mixR_c {sz sz' sp sp' : Int → Int} {el el' : Int → Int → Int} (h : Int) : ∀ n : Nat, (∀ r : Nat, r < n → sz' r = sz r ∧ sp' r = sp r ∧ ∀ i : Nat, i < (sz r).toNat → el' r i = el r i) → mixR sz' el' sp' h n = mixR sz el sp h n := by
  intro n
  induction n with
  | zero => intro _; rfl
  | succ n ih =>
    intro e
    obtain ⟨e1, e2, e3⟩ := e n (by omega)
    show 31 * mixr (el' n) (31 * mixR sz' el' sp' h n + sz' n) (sz' n).toNat + sp' n = 31 * mixr (el n) (31 * mixR sz el sp h n + sz n) (sz n).toNat + sp n
    rw [ih (fun r a => e r (by omega)), e1, e2, mixr_c _ _ (fun j a => e3 j a)]
theorem mixN_c {s t : St} (h : ∀ q, 61 < q → q < 80 → t q = s q) (x : Int) : ∀ n, mixN t x n = mixN s x n := by
  intro n
  induction n with
  | zero => rfl
  | succ n ih =>
    show 31 * (31 * (31 * (31 * (31 * (31 * mixN t x n + t 63 n) + t 65 n) + t 67 n) + t 69 n) + t 73 n) + t 75 n = 31 * (31 * (31 * (31 * (31 * (31 * mixN s x n + s 63 n) + s 65 n) + s 67 n) + s 69 n) + s 73 n) + s 75 n
    rw [ih, h 63 (by decide) (by decide), h 65 (by decide) (by decide), h 67 (by decide) (by decide), h 69 (by decide) (by decide), h 73 (by decide) (by decide), h 75 (by decide) (by decide)]
theorem st_nodeAt {k : Nat} {σ : St} {a : Int} (h : Inv k σ) (ia : inR a) : pre_X6_nodeAt a σ ∧ ∀ r s1, post_X6_nodeAt a σ r s1 → pr2_X7_nodeAt a s1 ∧ ∀ r' s2, post_X7_nodeAt a s1 r' s2 → r' = r ∧ Inv (k + 1) s2 := by
  refine ⟨⟨h.RF, ia⟩, fun r s1 hp => ?_⟩
  obtain ⟨hn, hv⟩ := hp
  have hL := h.L
  have h8 := h.L8
  by_cases v : 0 ≤ a ∧ a < σ 1 4
  · obtain ⟨h1, er⟩ := hv v
    have e81 : s1 81 0 = σ 1 4 := by rw [h1.1 81 (by decide) (by decide) (by decide) (by decide) (by decide) (by decide), h8]
    refine ⟨⟨ia, by rw [e81]; exact hL, fun _ => h.toRP h1 (fun _ _ => rfl)⟩, fun r' s2 hq => ?_⟩
    obtain ⟨h2, er'⟩ := hq.2 (by rw [e81]; exact v)
    exact ⟨by rw [er', er, h2.row (by decide), inn_c (h2.row (by decide)) (h2.row (by decide))], h.ask0 h1 h2⟩
  · obtain ⟨er, es⟩ := hn v
    have e81 : s1 81 0 = σ 1 4 := by rw [es, fail6_n σ 81 (by decide), h8]
    refine ⟨⟨ia, by rw [e81]; exact hL, fun w => absurd (by rw [e81] at w; exact w) v⟩, fun r' s2 hq => ?_⟩
    obtain ⟨er', es'⟩ := hq.1 (by rw [e81]; exact v)
    exact ⟨er'.trans er.symm, by rw [es', es]; exact h.fail ⟨by decide, by decide⟩⟩
theorem st_countOf {k : Nat} {σ : St} {a : Int} (h : Inv k σ) (ia : inR a) : pre_X6_countOf a σ ∧ ∀ r s1, post_X6_countOf a σ r s1 → pr2_X7_countOf a s1 ∧ ∀ r' s2, post_X7_countOf a s1 r' s2 → r' = r ∧ Inv (k + 1) s2 := by
  refine ⟨⟨h.RF, ia⟩, fun r s1 hp => ?_⟩
  obtain ⟨hn, hv⟩ := hp
  by_cases v : 0 ≤ a ∧ a < 6
  · obtain ⟨h1, er⟩ := hv v
    refine ⟨⟨ia, fun _ => h.toRP h1 (fun _ _ => rfl)⟩, fun r' s2 hq => ?_⟩
    obtain ⟨h2, er'⟩ := hq.2 v
    exact ⟨by rw [er', er, h2.row (by decide), cntr_c (h2.row (by decide))], h.ask0 h1 h2⟩
  · obtain ⟨er, es⟩ := hn v
    refine ⟨⟨ia, fun w => absurd w v⟩, fun r' s2 hq => ?_⟩
    obtain ⟨er', es'⟩ := hq.1 v
    exact ⟨er'.trans er.symm, by rw [es', es]; exact h.fail ⟨by decide, by decide⟩⟩
theorem st_matchEnd {k : Nat} {σ : St} {a b : Int} (h : Inv k σ) (ia : inR a) (ib : inR b) : pre_X6_matchEnd a b σ ∧ ∀ r s1, post_X6_matchEnd a b σ r s1 → pr2_X7_matchEnd a b s1 ∧ ∀ r' s2, post_X7_matchEnd a b s1 r' s2 → r' = r ∧ Inv (k + 1) s2 := by
  refine ⟨⟨h.RF, ia, ib⟩, fun r s1 hp => ?_⟩
  obtain ⟨hn, hv⟩ := hp
  have hL := h.L
  have h8 := h.L8
  by_cases v : 0 ≤ a ∧ a < 6 ∧ 0 ≤ b ∧ b ≤ σ 1 4
  · obtain ⟨h1, er⟩ := hv v
    have e81 : s1 81 0 = σ 1 4 := by rw [h1.1 81 (by decide) (by decide) (by decide) (by decide) (by decide) (by decide), h8]
    refine ⟨⟨ia, ib, by rw [e81]; exact hL, fun _ => h.toRP h1 (fun _ _ => rfl)⟩, fun r' s2 hq => ?_⟩
    obtain ⟨n2, m8, er'⟩ := hq.2 (by rw [e81]; exact v)
    refine ⟨er'.trans er.symm, ?_⟩
    obtain ⟨r1, r2, r3, r4⟩ := h1
    have n : ∀ q, q ≠ 0 → (q ≤ 53 ∨ (80 ≤ q ∧ q ≤ 84)) → s2 q = σ q := fun q c d => by
      rw [n2 q (by omega), r1 q c (by omega) (by omega) (by omega) (by omega) (by omega)]
    have e0 : s2 0 = s1 0 := n2 0 (by decide)
    have fr : Fresh s2 := r4.keep (fun q a b c d f => Or.inl (n2 q (by omega)))
    exact ⟨IG_c (fun q a b => n q (by omega) (by omega)) (n 81 (by decide) (by decide)) h.1, IB_c (by rw [e0, r2 6 (by decide)]) (n 49 (by decide) (by decide)) (n 83 (by decide) (by decide)) (by rw [n 80 (by decide) (by decide)]) h.2.1, IE_c (n 51 (by decide) (by decide)) (n 84 (by decide) (by decide)) h.2.2.1, IH_c (by rw [n 10 (by decide) (by decide)]) (by rw [n 10 (by decide) (by decide)]) (fun q a b => n q (by omega) (by omega)) (n 82 (by decide) (by decide)) (by rw [n 80 (by decide) (by decide)]) h.2.2.2.1, fr.1.1, m8, Or.inl (by rw [e0]; exact r3), fun _ => fr⟩
  · obtain ⟨er, es⟩ := hn v
    have e81 : s1 81 0 = σ 1 4 := by rw [es, fail6_n σ 81 (by decide), h8]
    refine ⟨⟨ia, ib, by rw [e81]; exact hL, fun w => absurd (by rw [e81] at w; exact w) v⟩, fun r' s2 hq => ?_⟩
    obtain ⟨er', es'⟩ := hq.1 (by rw [e81]; exact v)
    exact ⟨er'.trans er.symm, by rw [es', es]; exact h.fail ⟨by decide, by decide⟩⟩
theorem st_digest {k : Nat} {σ : St} (hk : k ≤ 1000) (h : Inv k σ) : pre_X6_digest σ ∧ ∀ r s1, post_X6_digest σ r s1 → pre_X7_digest s1 ∧ ∀ r' s2, post_X7_digest s1 r' s2 → r' = r ∧ Inv (k + 1) s2 := by
  have hB := h.2.1
  have hs := h.sv
  have e80 := h.2.2.2.1.1.2.2
  refine ⟨⟨h.RF, ⟨by have := hB.1.1; omega, by have := hB.1.2; omega⟩, ⟨by have := hs.2.2.1; omega, by have := hs.2.2.2; omega⟩, fun j a b => ?_⟩, fun r s1 hp => ?_⟩
  · obtain ⟨-, g2, g3⟩ := h.2.2.1 j a b
    exact ⟨by omega, by omega⟩
  obtain ⟨h1, er⟩ := hp
  have n : ∀ q, 80 ≤ q → s1 q = σ q := fun q a => h1.1 q (by omega) (by omega) (by omega) (by omega) (by omega) (Or.inr a)
  refine ⟨⟨h.toRP h1 (fun _ _ => rfl), ?_, ?_, fun j a b => ?_⟩, fun r' s2 hq => ?_⟩
  · rw [n 80 (by decide), hB.2.1]
    exact ⟨by have := hB.1.1; omega, by have := hB.1.2; omega⟩
  · rw [n 80 (by decide), e80]
    exact ⟨by have := hs.2.2.1; omega, by have := hs.2.2.2; omega⟩
  · rw [n 84 (by decide)]
    obtain ⟨g1, g2, g3⟩ := h.2.2.1 j a b
    rw [g1]
    exact ⟨by omega, by omega⟩
  obtain ⟨t, h2, es', er'⟩ := hq
  have u : ∀ q, q ≠ 80 → s2 q = t q := fun q a => by rw [es', up_n _ _ _ a]
  have u80 : ∀ j, j ≠ 16 → s2 80 j = t 80 j := fun j a => by rw [es', up_s, ui_n _ _ a]
  refine ⟨?_, h.ask h1 (fun _ _ => rfl) h2 (fun q _ a => u q a) ⟨u80 2 (by decide), u80 4 (by decide)⟩ (fun j a b => ?_)⟩
  · rw [er', er, n 80 (by decide), n 81 (by decide), n 84 (by decide), h2.row (show 61 < 80 by decide), mixN_c (fun q _ a => h2.row a), hB.2.1, e80, h.L8]
    have q1 : mixr (σ 84) 17305 3 = mixr (σ 51) 17305 3 := mixr_c _ _ (fun j a => (h.2.2.1 j (by omega) (by omega)).1)
    have q2 : ∀ x : Int, mixr (fun k => σ 81 (1 + k)) x (σ 1 4).toNat = mixr (σ 3) x (σ 1 4).toNat := fun x => mixr_c _ _ (fun j a => h.T8 (by omega) (by omega))
    have q3 : ∀ x : Int, mixR (fun r => σ 81 (101 + r)) (fun r i => σ 81 (107 + 8 * r + i)) (fun r => σ 81 (155 + r)) x 6 = mixR (σ 5) (fun r i => σ 7 (r * 8 + i)) (σ 9) x 6 := fun x => mixR_c _ _ (fun r a => by
      obtain ⟨g1, g2, g3⟩ := h.S8 (r := r) (by omega) (by omega)
      exact ⟨g1, g2, fun i b => g3 i (by omega) (by omega)⟩)
    rw [q1, q2, q3]
  · have := IE_ask h h1 h2 j a b
    rw [u 84 (by decide), u 51 (by decide)]
    exact this
theorem st_nodeCount {k : Nat} {σ : St} (h : Inv k σ) : pre_X6_nodeCount σ ∧ ∀ r s1, post_X6_nodeCount σ r s1 → pre_X7_nodeCount s1 ∧ ∀ r' s2, post_X7_nodeCount s1 r' s2 → r' = r ∧ Inv (k + 1) s2 := st_cnt 11 h
theorem st_islandCount {k : Nat} {σ : St} (h : Inv k σ) : pre_X6_islandCount σ ∧ ∀ r s1, post_X6_islandCount σ r s1 → pre_X7_islandCount s1 ∧ ∀ r' s2, post_X7_islandCount s1 r' s2 → r' = r ∧ Inv (k + 1) s2 := st_cnt 12 h
theorem st_waterLength {k : Nat} {σ : St} (h : Inv k σ) : pre_X6_waterLength σ ∧ ∀ r s1, post_X6_waterLength σ r s1 → pre_X7_waterLength s1 ∧ ∀ r' s2, post_X7_waterLength s1 r' s2 → r' = r ∧ Inv (k + 1) s2 := st_cnt 13 h
theorem st_longestWater {k : Nat} {σ : St} (h : Inv k σ) : pre_X6_longestWater σ ∧ ∀ r s1, post_X6_longestWater σ r s1 → pre_X7_longestWater s1 ∧ ∀ r' s2, post_X7_longestWater s1 r' s2 → r' = r ∧ Inv (k + 1) s2 := st_cnt 15 h
theorem st_nodeRule {k : Nat} {σ : St} {a : Int} (h : Inv k σ) (ia : inR a) : pre_X6_nodeRule a σ ∧ ∀ r s1, post_X6_nodeRule a σ r s1 → pre_X7_nodeRule a s1 ∧ ∀ r' s2, post_X7_nodeRule a s1 r' s2 → r' = r ∧ Inv (k + 1) s2 := st_node 63 ⟨by decide, by decide⟩ h ia
theorem st_nodeStart {k : Nat} {σ : St} {a : Int} (h : Inv k σ) (ia : inR a) : pre_X6_nodeStart a σ ∧ ∀ r s1, post_X6_nodeStart a σ r s1 → pre_X7_nodeStart a s1 ∧ ∀ r' s2, post_X7_nodeStart a s1 r' s2 → r' = r ∧ Inv (k + 1) s2 := st_node 65 ⟨by decide, by decide⟩ h ia
theorem st_nodeEnd {k : Nat} {σ : St} {a : Int} (h : Inv k σ) (ia : inR a) : pre_X6_nodeEnd a σ ∧ ∀ r s1, post_X6_nodeEnd a σ r s1 → pre_X7_nodeEnd a s1 ∧ ∀ r' s2, post_X7_nodeEnd a s1 r' s2 → r' = r ∧ Inv (k + 1) s2 := st_node 67 ⟨by decide, by decide⟩ h ia
theorem st_nodeParent {k : Nat} {σ : St} {a : Int} (h : Inv k σ) (ia : inR a) : pre_X6_nodeParent a σ ∧ ∀ r s1, post_X6_nodeParent a σ r s1 → pre_X7_nodeParent a s1 ∧ ∀ r' s2, post_X7_nodeParent a s1 r' s2 → r' = r ∧ Inv (k + 1) s2 := st_node 69 ⟨by decide, by decide⟩ h ia
theorem st_nodeDepth {k : Nat} {σ : St} {a : Int} (h : Inv k σ) (ia : inR a) : pre_X6_nodeDepth a σ ∧ ∀ r s1, post_X6_nodeDepth a σ r s1 → pre_X7_nodeDepth a s1 ∧ ∀ r' s2, post_X7_nodeDepth a s1 r' s2 → r' = r ∧ Inv (k + 1) s2 := st_node 71 ⟨by decide, by decide⟩ h ia
theorem st_nodeWater {k : Nat} {σ : St} {a : Int} (h : Inv k σ) (ia : inR a) : pre_X6_nodeWater a σ ∧ ∀ r s1, post_X6_nodeWater a σ r s1 → pre_X7_nodeWater a s1 ∧ ∀ r' s2, post_X7_nodeWater a s1 r' s2 → r' = r ∧ Inv (k + 1) s2 := st_node 73 ⟨by decide, by decide⟩ h ia
theorem st_nodeNumber {k : Nat} {σ : St} {a : Int} (h : Inv k σ) (ia : inR a) : pre_X6_nodeNumber a σ ∧ ∀ r s1, post_X6_nodeNumber a σ r s1 → pre_X7_nodeNumber a s1 ∧ ∀ r' s2, post_X7_nodeNumber a s1 r' s2 → r' = r ∧ Inv (k + 1) s2 := st_node 75 ⟨by decide, by decide⟩ h ia
