-- class and reference hold the same: what the law's loop keeps
def WFc (σ : St) (b : Nat) : Prop := (0 ≤ σ b 4 ∧ σ b 4 ≤ 100) ∧ (∀ p, 0 ≤ p → p < σ b 4 → 32 ≤ σ (b + 2) p ∧ σ (b + 2) p ≤ 126) ∧ ∀ r, 0 ≤ r → r < 6 → (0 ≤ σ (b + 4) r ∧ σ (b + 4) r ≤ 8) ∧ (σ (b + 8) r = -1 ∨ (32 ≤ σ (b + 8) r ∧ σ (b + 8) r ≤ 126)) ∧ (∀ i, 0 ≤ i → i < σ (b + 4) r → 32 ≤ σ (b + 6) (r * 8 + i) ∧ σ (b + 6) (r * 8 + i) ≤ 126) ∧ (0 < σ (b + 4) r → σ (b + 6) (r * 8 + 0) ≠ 126 ∧ ¬ (65 ≤ σ (b + 6) (r * 8 + 0) ∧ σ (b + 6) (r * 8 + 0) ≤ 70))
def SMc (σ : St) (b : Nat) (f : Int → Int) (o : Int) : Prop := f o = σ b 4 ∧ (∀ p, 0 ≤ p → p < σ b 4 → f (o + 1 + p) = σ (b + 2) p) ∧ ∀ r, 0 ≤ r → r < 6 → f (o + 101 + r) = σ (b + 4) r ∧ f (o + 155 + r) = σ (b + 8) r ∧ ∀ i, 0 ≤ i → i < σ (b + 4) r → f (o + 107 + 8 * r + i) = σ (b + 6) (r * 8 + i)
theorem WFc.g {σ : St} {b : Nat} (h : WFc σ b) : gWF (cg σ b) := by
  obtain ⟨h1, h2, h3⟩ := h
  refine ⟨h1, fun p a c => by rw [cg_t a c]; exact h2 p a c, fun r a c => ?_⟩
  obtain ⟨g1, g2, g3, g4⟩ := h3 r a c
  rw [cg_s a c, cg_p a c]
  exact ⟨g1, g2, fun i d e => by rw [cg_e a c d e]; exact g3 i d e, fun d => by rw [cg_e a c (Int.le_refl 0) d]; exact g4 d⟩
theorem nrm_congr {L L' : Int} {t t' sz sz' sp sp' : Int → Int} {el el' : Int → Int → Int} (h0 : L' = L) (h1 : ∀ p, 0 ≤ p → p < L → t' p = t p) (h2 : ∀ r, 0 ≤ r → r < 6 → sz' r = sz r) (h3 : ∀ r i, 0 ≤ r → r < 6 → 0 ≤ i → i < sz r → el' r i = el r i) (h4 : ∀ r, 0 ≤ r → r < 6 → sp' r = sp r) : nrm L' t' sz' el' sp' = nrm L t sz el sp := by
  subst h0
  unfold nrm
  refine Prod.ext rfl (Prod.ext (funext fun p => ?_) (Prod.ext (funext fun r => ?_) (Prod.ext (funext fun r => funext fun i => ?_) (funext fun r => ?_))))
  · show (if 0 ≤ p ∧ p < L' then t' p else 0) = if 0 ≤ p ∧ p < L' then t p else 0
    by_cases q : 0 ≤ p ∧ p < L'
    · rw [if_pos q, if_pos q, h1 p q.1 q.2]
    · rw [if_neg q, if_neg q]
  · show (if 0 ≤ r ∧ r < 6 then sz' r else 0) = if 0 ≤ r ∧ r < 6 then sz r else 0
    by_cases q : 0 ≤ r ∧ r < 6
    · rw [if_pos q, if_pos q, h2 r q.1 q.2]
    · rw [if_neg q, if_neg q]
  · show (if 0 ≤ r ∧ r < 6 ∧ 0 ≤ i ∧ i < sz' r then el' r i else 0) = if 0 ≤ r ∧ r < 6 ∧ 0 ≤ i ∧ i < sz r then el r i else 0
    by_cases q : 0 ≤ r ∧ r < 6 ∧ 0 ≤ i ∧ i < sz r
    · have e := h2 r q.1 q.2.1
      rw [if_pos q, if_pos ⟨q.1, q.2.1, q.2.2.1, by rw [e]; exact q.2.2.2⟩, h3 r i q.1 q.2.1 q.2.2.1 q.2.2.2]
    · rw [if_neg q, if_neg (fun z => q ⟨z.1, z.2.1, z.2.2.1, by rw [← h2 r z.1 z.2.1]; exact z.2.2.2⟩)]
  · show (if 0 ≤ r ∧ r < 6 then sp' r else 0) = if 0 ≤ r ∧ r < 6 then sp r else 0
    by_cases q : 0 ≤ r ∧ r < 6
    · rw [if_pos q, if_pos q, h4 r q.1 q.2]
    · rw [if_neg q, if_neg q]
theorem SMc.eq {σ : St} {b : Nat} {f : Int → Int} {o : Int} (h : SMc σ b f o) : cg σ b = mg f o := by
  obtain ⟨h1, h2, h3⟩ := h
  exact (nrm_congr h1 h2 (fun r a c => (h3 r a c).1) (fun r i a c d e => (h3 r a c).2.2 i d e) (fun r a c => (h3 r a c).2.1)).symm
/-- what a copy of a State keeps -/
def CPs (σ : St) (b : Nat) (τ : St) (b' : Nat) : Prop := τ b' 4 = σ b 4 ∧ (∀ j, 0 ≤ j → j < 100 → τ (b' + 2) j = σ (b + 2) j) ∧ (∀ j, 0 ≤ j → j < 6 → τ (b' + 4) j = σ (b + 4) j) ∧ (∀ j, 0 ≤ j → j < 48 → τ (b' + 6) j = σ (b + 6) j) ∧ (∀ j, 0 ≤ j → j < 6 → τ (b' + 8) j = σ (b + 8) j)
theorem CPs.same {σ τ : St} {b : Nat} (h : ∀ q, b ≤ q → q ≤ b + 8 → τ q = σ q) : CPs σ b τ b :=
  ⟨by rw [h b (by omega) (by omega)], fun j _ _ => by rw [h (b + 2) (by omega) (by omega)], fun j _ _ => by rw [h (b + 4) (by omega) (by omega)], fun j _ _ => by rw [h (b + 6) (by omega) (by omega)], fun j _ _ => by rw [h (b + 8) (by omega) (by omega)]⟩
theorem CPs.trans {σ τ ρ : St} {b b' c : Nat} (h : CPs σ b τ b') (g : CPs τ b' ρ c) : CPs σ b ρ c :=
  ⟨g.1.trans h.1, fun j a d => (g.2.1 j a d).trans (h.2.1 j a d), fun j a d => (g.2.2.1 j a d).trans (h.2.2.1 j a d), fun j a d => (g.2.2.2.1 j a d).trans (h.2.2.2.1 j a d), fun j a d => (g.2.2.2.2 j a d).trans (h.2.2.2.2 j a d)⟩
theorem SMc_move {σ τ : St} {b b' : Nat} {f f' : Int → Int} {o o' : Int} (hW : WFc σ b) (hS : SMc σ b f o) (hc : CPs σ b τ b') (hf : ∀ j, 0 ≤ j → j < 161 → f' (o' + j) = f (o + j)) : WFc τ b' ∧ SMc τ b' f' o' := by
  obtain ⟨w1, w2, w3⟩ := hW
  obtain ⟨s1, s2, s3⟩ := hS
  obtain ⟨c1, c2, c3, c4, c5⟩ := hc
  refine ⟨⟨by rw [c1]; exact w1, fun p a d => ?_, fun r a d => ?_⟩, ?_, fun p a d => ?_, fun r a d => ?_⟩
  · rw [c1] at d
    rw [c2 p a (by omega)]
    exact w2 p a d
  · obtain ⟨g1, g2, g3, g4⟩ := w3 r a d
    rw [c3 r a d, c5 r a d]
    refine ⟨g1, g2, fun i x y => ?_, fun x => ?_⟩
    · rw [c4 (r * 8 + i) (by omega) (by omega)]
      exact g3 i x y
    · rw [c4 (r * 8 + 0) (by omega) (by omega)]
      exact g4 x
  · have := hf 0 (by decide) (by decide)
    rw [Int.add_zero, Int.add_zero] at this
    rw [this, s1, c1]
  · rw [c1] at d
    have := hf (1 + p) (by omega) (by omega)
    rw [show o' + 1 + p = o' + (1 + p) by omega, this, show o + (1 + p) = o + 1 + p by omega, s2 p a d, c2 p a (by omega)]
  · obtain ⟨g1, g2, g3⟩ := s3 r a d
    obtain ⟨k1, -⟩ := w3 r a d
    rw [c3 r a d, c5 r a d]
    refine ⟨?_, ?_, fun i x y => ?_⟩
    · rw [show o' + 101 + r = o' + (101 + r) by omega, hf (101 + r) (by omega) (by omega), show o + (101 + r) = o + 101 + r by omega, g1]
    · rw [show o' + 155 + r = o' + (155 + r) by omega, hf (155 + r) (by omega) (by omega), show o + (155 + r) = o + 155 + r by omega, g2]
    · rw [show o' + 107 + 8 * r + i = o' + (107 + 8 * r + i) by omega, hf (107 + 8 * r + i) (by omega) (by omega), show o + (107 + 8 * r + i) = o + 107 + 8 * r + i by omega, g3 i x y, c4 (r * 8 + i) (by omega) (by omega)]
theorem copyF (σ : St) {b b2 : Nat} (hd : b + 9 ≤ b2 ∨ b2 + 9 ≤ b) : (∀ q, ¬ (b ≤ q ∧ q ≤ b + 8) → eff_X5_copyFrom b b2 σ q = σ q) ∧ CPs σ b2 (eff_X5_copyFrom b b2 σ) b := by
  have key : ∀ q, eff_X5_copyFrom b b2 σ q = if q = b + 7 + 1 then (fun j => if 0 ≤ j ∧ j < ((6 : Nat) : Int) ∧ j < ((6 : Nat) : Int) then σ (b2 + 7 + 1) j else σ (b + 7 + 1) j) else if q = b + 5 + 1 then (fun j => if 0 ≤ j ∧ j < ((48 : Nat) : Int) ∧ j < ((48 : Nat) : Int) then σ (b2 + 5 + 1) j else σ (b + 5 + 1) j) else if q = b + 3 + 1 then (fun j => if 0 ≤ j ∧ j < ((6 : Nat) : Int) ∧ j < ((6 : Nat) : Int) then σ (b2 + 3 + 1) j else σ (b + 3 + 1) j) else if q = b + 1 + 1 then (fun j => if 0 ≤ j ∧ j < ((100 : Nat) : Int) ∧ j < ((100 : Nat) : Int) then σ (b2 + 1 + 1) j else σ (b + 1 + 1) j) else if q = b then ui (σ b) 4 (σ b2 4) else σ q := by
    intro q
    unfold eff_X5_copyFrom eff_X4_copyFrom up
    have n1 : ∀ (ρ : St) (f : Int → Int) (x y : Nat), x ≠ y → ur ρ y f x = ρ x := fun ρ f x y h => ur_n ρ f h
    rw [n1 _ _ (b2 + 7 + 1) (b + 5 + 1) (by omega), n1 _ _ (b + 7 + 1) (b + 5 + 1) (by omega), n1 _ _ (b2 + 7 + 1) (b + 3 + 1) (by omega), n1 _ _ (b + 7 + 1) (b + 3 + 1) (by omega), n1 _ _ (b2 + 7 + 1) (b + 1 + 1) (by omega), n1 _ _ (b + 7 + 1) (b + 1 + 1) (by omega), n1 _ _ (b2 + 7 + 1) b (by omega), n1 _ _ (b + 7 + 1) b (by omega),
      n1 _ _ (b2 + 5 + 1) (b + 3 + 1) (by omega), n1 _ _ (b + 5 + 1) (b + 3 + 1) (by omega), n1 _ _ (b2 + 5 + 1) (b + 1 + 1) (by omega), n1 _ _ (b + 5 + 1) (b + 1 + 1) (by omega), n1 _ _ (b2 + 5 + 1) b (by omega), n1 _ _ (b + 5 + 1) b (by omega),
      n1 _ _ (b2 + 3 + 1) (b + 1 + 1) (by omega), n1 _ _ (b + 3 + 1) (b + 1 + 1) (by omega), n1 _ _ (b2 + 3 + 1) b (by omega), n1 _ _ (b + 3 + 1) b (by omega), n1 _ _ (b2 + 1 + 1) b (by omega), n1 _ _ (b + 1 + 1) b (by omega)]
    rfl
  refine ⟨fun q h => ?_, ?_, fun j a d => ?_, fun j a d => ?_, fun j a d => ?_, fun j a d => ?_⟩
  · rw [key, if_neg (by omega), if_neg (by omega), if_neg (by omega), if_neg (by omega), if_neg (by omega)]
  · rw [key, if_neg (by omega), if_neg (by omega), if_neg (by omega), if_neg (by omega), if_pos rfl, ui_s]
  · rw [key, if_neg (by omega), if_neg (by omega), if_neg (by omega), if_pos rfl]
    exact if_pos ⟨a, d, d⟩
  · rw [key, if_neg (by omega), if_neg (by omega), if_pos rfl]
    exact if_pos ⟨a, d, d⟩
  · rw [key, if_neg (by omega), if_pos rfl]
    exact if_pos ⟨a, d, d⟩
  · rw [key, if_pos rfl]
    exact if_pos ⟨a, d, d⟩
/-- the place in the ring of the i-th saved state, the oldest first -/
def slt (σ : St) (i : Int) : Nat := 12 + 9 * ((σ 10 1 - σ 10 2 + i) % 4).toNat
def IG (σ : St) : Prop := WFc σ 1 ∧ SMc σ 1 (σ 81) 0
def IB (σ : St) : Prop := (0 ≤ σ 0 6 ∧ σ 0 6 ≤ 8) ∧ σ 80 4 = σ 0 6 ∧ ∀ j, 0 ≤ j → j < 8 → σ 83 j = σ 49 j ∧ (0 ≤ σ 49 j ∧ σ 49 j ≤ 126) ∧ (j < σ 0 6 → 32 ≤ σ 49 j)
def IE (k : Nat) (σ : St) : Prop := ∀ j, 0 ≤ j → j < 3 → σ 84 j = σ 51 j ∧ 0 ≤ σ 51 j ∧ σ 51 j ≤ (k : Int)
def IH (σ : St) : Prop := ((0 ≤ σ 10 1 ∧ σ 10 1 ≤ 3) ∧ (0 ≤ σ 10 2 ∧ σ 10 2 ≤ 4) ∧ σ 80 2 = σ 10 2) ∧ ∀ i, 0 ≤ i → i < σ 10 2 → WFc σ (slt σ i) ∧ SMc σ (slt σ i) (σ 82) (161 * i)
def IT (σ : St) : Prop := MB σ ∧ M8 σ ∧ (σ 0 7 = 0 ∨ σ 0 7 = 1) ∧ (σ 0 7 = 0 → Fresh σ)
def Inv (k : Nat) (σ : St) : Prop := IG σ ∧ IB σ ∧ IE k σ ∧ IH σ ∧ IT σ
theorem IG_c {σ s : St} (h : ∀ q, 1 ≤ q → q ≤ 9 → s q = σ q) (h81 : s 81 = σ 81) (hI : IG σ) : IG s :=
  SMc_move hI.1 hI.2 (CPs.same (fun q a b => h q a (by omega))) (fun j _ _ => by rw [h81])
theorem IB_c {σ s : St} (h1 : s 0 6 = σ 0 6) (h2 : s 49 = σ 49) (h3 : s 83 = σ 83) (h4 : s 80 4 = σ 80 4) (hI : IB σ) : IB s := by
  unfold IB
  rw [h1, h2, h3, h4]
  exact hI
theorem IE_c {k : Nat} {σ s : St} (h1 : s 51 = σ 51) (h2 : s 84 = σ 84) (hI : IE k σ) : IE (k + 1) s := fun j a b => by
  rw [h1, h2]
  obtain ⟨g1, g2, g3⟩ := hI j a b
  exact ⟨g1, g2, by omega⟩
theorem IH_c {σ s : St} (h1 : s 10 1 = σ 10 1) (h2 : s 10 2 = σ 10 2) (h3 : ∀ q, 12 ≤ q → q < 48 → s q = σ q) (h4 : s 82 = σ 82) (h5 : s 80 2 = σ 80 2) (hI : IH σ) : IH s := by
  obtain ⟨g, f⟩ := hI
  refine ⟨by rw [h1, h2, h5]; exact g, fun i a b => ?_⟩
  rw [h2] at b
  have e : slt s i = slt σ i := by unfold slt; rw [h1, h2]
  rw [e, h4]
  obtain ⟨w, m⟩ := f i a b
  have hs : 12 ≤ slt σ i ∧ slt σ i + 8 < 48 := by unfold slt; omega
  exact SMc_move w m (CPs.same (fun q x y => h3 q (by omega) (by omega))) (fun j _ _ => rfl)
theorem IT_c {σ s : St} (h : ∀ q, 1 ≤ q → q < 80 → q ≠ 10 → q ≠ 49 → q ≠ 51 → s q = σ q ∨ (12 ≤ q ∧ q < 48)) (h85 : s 85 = σ 85) (h07 : s 0 7 = σ 0 7) (hI : IT σ) : IT s := by
  obtain ⟨m, m8, st, fr⟩ := hI
  have r : ∀ q, 53 ≤ q → q < 80 → s q = σ q := fun q a b => (h q (by omega) b (by omega) (by omega) (by omega)).resolve_right (by omega)
  refine ⟨?_, ?_, by rw [h07]; exact st, fun z => (fr (by rw [← h07]; exact z)).keep h⟩
  · unfold MB
    rw [r 54 (by decide) (by decide), r 56 (by decide) (by decide), r 58 (by decide) (by decide), r 60 (by decide) (by decide)]
    exact m
  · unfold M8
    rw [h85]
    exact m8
theorem IT_stale {σ s : St} (h : ∀ q, 53 ≤ q → q ≤ 60 → s q = σ q) (h85 : s 85 = σ 85) (h07 : s 0 7 = 1) (hI : IT σ) : IT s := by
  obtain ⟨m, m8, st, fr⟩ := hI
  refine ⟨?_, ?_, Or.inr h07, fun z => by rw [h07] at z; omega⟩
  · unfold MB
    rw [h 54 (by decide) (by decide), h 56 (by decide) (by decide), h 58 (by decide) (by decide), h 60 (by decide) (by decide)]
    exact m
  · unfold M8
    rw [h85]
    exact m8
theorem Inv.RF {k : Nat} {σ : St} (h : Inv k σ) : RF σ := ⟨h.2.2.2.2.1, h.1.1.g, h.2.2.2.2.2.2.1, h.2.2.2.2.2.2.2⟩
theorem Inv.mono {k : Nat} {σ : St} (h : Inv k σ) : Inv (k + 1) σ := ⟨h.1, h.2.1, IE_c rfl rfl h.2.2.1, h.2.2.2.1, h.2.2.2.2⟩
theorem Inv.sv {k : Nat} {σ : St} (h : Inv k σ) : pre_X1_save σ := ⟨h.2.2.2.1.1.1.1, h.2.2.2.1.1.1.2, h.2.2.2.1.1.2.1.1, h.2.2.2.1.1.2.1.2⟩
theorem Inv.m80 {k : Nat} {σ : St} (h : Inv k σ) : 0 ≤ σ 80 2 ∧ σ 80 2 ≤ 4 := by
  rw [h.2.2.2.1.1.2.2]
  exact h.2.2.2.1.1.2.1
theorem Inv.L {k : Nat} {σ : St} (h : Inv k σ) : 0 ≤ σ 1 4 ∧ σ 1 4 ≤ 100 := h.1.1.1
theorem Inv.L8 {k : Nat} {σ : St} (h : Inv k σ) : σ 81 0 = σ 1 4 := h.1.2.1
theorem Inv.T8 {k : Nat} {σ : St} (h : Inv k σ) {p : Int} (a : 0 ≤ p) (b : p < σ 1 4) : σ 81 (1 + p) = σ 3 p := by
  have := h.1.2.2.1 p a b
  rw [show (0 : Int) + 1 + p = 1 + p by omega] at this
  exact this
theorem Inv.S8 {k : Nat} {σ : St} (h : Inv k σ) {r : Int} (a : 0 ≤ r) (b : r < 6) : σ 81 (101 + r) = σ 5 r ∧ σ 81 (155 + r) = σ 9 r ∧ ∀ i, 0 ≤ i → i < σ 5 r → σ 81 (107 + 8 * r + i) = σ 7 (r * 8 + i) := by
  have := h.1.2.2.2 r a b
  rw [show (0 : Int) + 101 + r = 101 + r by omega, show (0 : Int) + 155 + r = 155 + r by omega] at this
  refine ⟨this.1, this.2.1, fun i x y => ?_⟩
  have z := this.2.2 i x y
  rw [show (0 : Int) + 107 + 8 * r + i = 107 + 8 * r + i by omega] at z
  exact z
theorem Inv.S5 {k : Nat} {σ : St} (h : Inv k σ) {r : Int} (a : 0 ≤ r) (b : r < 6) : 0 ≤ σ 5 r ∧ σ 5 r ≤ 8 := (h.1.1.2.2 r a b).1
/-- a call that both refuse -/
theorem Inv.fail {k : Nat} {σ : St} (h : Inv k σ) {c : Int} (hc : -4 ≤ c ∧ c ≤ -2) : Inv (k + 1) (eff_X7_fail c (eff_X6_fail c σ)) := by
  have n : ∀ q, q ≠ 51 → q ≠ 84 → eff_X7_fail c (eff_X6_fail c σ) q = σ q := fun q a b => by
    unfold eff_X7_fail eff_X6_fail
    rw [up_n _ _ _ b, up_n _ _ _ a]
  have e51 : eff_X7_fail c (eff_X6_fail c σ) 51 = ui (σ 51) (-2 - c) (σ 51 (-2 - c) + 1) := by
    unfold eff_X7_fail eff_X6_fail
    rw [up_n _ _ _ (by decide), up_s]
  have e84 : eff_X7_fail c (eff_X6_fail c σ) 84 = ui (σ 84) (-2 - c) (σ 84 (-2 - c) + 1) := by
    unfold eff_X7_fail eff_X6_fail
    rw [up_s, up_n _ _ _ (by decide)]
  obtain ⟨hG, hB, hE, hH, hT⟩ := h
  refine ⟨IG_c (fun q a b => n q (by omega) (by omega)) (n 81 (by decide) (by decide)) hG, IB_c (by rw [n 0 (by decide) (by decide)]) (n 49 (by decide) (by decide)) (n 83 (by decide) (by decide)) (by rw [n 80 (by decide) (by decide)]) hB, fun j a b => ?_, IH_c (by rw [n 10 (by decide) (by decide)]) (by rw [n 10 (by decide) (by decide)]) (fun q a b => n q (by omega) (by omega)) (n 82 (by decide) (by decide)) (by rw [n 80 (by decide) (by decide)]) hH, IT_c (fun q a b c d e => Or.inl (n q e (by omega))) (n 85 (by decide) (by decide)) (by rw [n 0 (by decide) (by decide)]) hT⟩
  rw [e51, e84]
  obtain ⟨g1, g2, g3⟩ := hE j a b
  by_cases z : j = -2 - c
  · subst z
    rw [ui_s, ui_s]
    omega
  · rw [ui_n _ _ z, ui_n _ _ z]
    omega
theorem fail_81 (c : Int) (σ : St) : eff_X6_fail c σ 81 = σ 81 ∧ eff_X6_fail c σ 80 = σ 80 ∧ eff_X6_fail c σ 83 = σ 83 ∧ eff_X6_fail c σ 84 = σ 84 := ⟨up_n _ _ _ (by decide), up_n _ _ _ (by decide), up_n _ _ _ (by decide), up_n _ _ _ (by decide)⟩
/-- what the class's save leaves -/
theorem saveC (σ : St) (h : pre_X1_save σ) : (∀ q, q ≠ 0 → q ≠ 10 → ¬ (12 + 9 * (σ 10 1).toNat ≤ q ∧ q ≤ 12 + 9 * (σ 10 1).toNat + 8) → eff_X6_prepareChange σ q = σ q) ∧ eff_X6_prepareChange σ 0 = ui (σ 0) 7 1 ∧ (eff_X6_prepareChange σ 10 1 = (if σ 10 1 + 1 < 4 then σ 10 1 + 1 else 0) ∧ eff_X6_prepareChange σ 10 2 = min (σ 10 2 + 1) 4) ∧ CPs σ 1 (eff_X6_prepareChange σ) (12 + 9 * (σ 10 1).toNat) := by
  obtain ⟨a1, a2, a3, a4⟩ := h
  have eb : ans_X1_slotAt (σ 10 1) σ = 12 + 9 * (σ 10 1).toNat := by
    unfold ans_X1_slotAt
    rw [if_pos ⟨a1, by omega⟩]
  have hb : (σ 10 1).toNat ≤ 3 := by omega
  obtain ⟨c1, c2⟩ := copyF σ (b := 12 + 9 * (σ 10 1).toNat) (b2 := 1) (by omega)
  have e : eff_X6_prepareChange σ = up (up (up (eff_X5_copyFrom (12 + 9 * (σ 10 1).toNat) 1 σ) 10 1 (if σ 10 1 + 1 < 4 then σ 10 1 + 1 else 0)) 10 2 (min (σ 10 2 + 1) 4)) 0 7 1 := by
    unfold eff_X6_prepareChange eff_X1_save
    rw [eb]
  rw [e]
  have n : ∀ q, q ≠ 0 → q ≠ 10 → up (up (up (eff_X5_copyFrom (12 + 9 * (σ 10 1).toNat) 1 σ) 10 1 (if σ 10 1 + 1 < 4 then σ 10 1 + 1 else 0)) 10 2 (min (σ 10 2 + 1) 4)) 0 7 1 q = eff_X5_copyFrom (12 + 9 * (σ 10 1).toNat) 1 σ q := fun q a b => by rw [up_n _ _ _ a, up_n _ _ _ b, up_n _ _ _ b]
  refine ⟨fun q a b c => by rw [n q a b, c1 q c], ?_, ⟨?_, ?_⟩, ?_⟩
  · rw [up_s, up_n _ _ _ (by decide), up_n _ _ _ (by decide), c1 0 (by omega)]
  · rw [up_n _ _ _ (by decide), up_s, ui_n _ _ (by decide), up_s, ui_s]
  · rw [up_n _ _ _ (by decide), up_s, ui_s]
  · obtain ⟨d1, d2, d3, d4, d5⟩ := c2
    exact ⟨by rw [n _ (by omega) (by omega)]; exact d1, fun j a b => by rw [n _ (by omega) (by omega)]; exact d2 j a b, fun j a b => by rw [n _ (by omega) (by omega)]; exact d3 j a b, fun j a b => by rw [n _ (by omega) (by omega)]; exact d4 j a b, fun j a b => by rw [n _ (by omega) (by omega)]; exact d5 j a b⟩
theorem saveM (σ : St) : (∀ q, q ≠ 80 → q ≠ 82 → eff_X7_save σ q = σ q) ∧ eff_X7_save σ 80 = ui (σ 80) 2 ((if σ 80 2 = 4 then 3 else σ 80 2) + 1) ∧ ∀ j, eff_X7_save σ 82 j = if 161 * (if σ 80 2 = 4 then 3 else σ 80 2) ≤ j ∧ j < 161 * (if σ 80 2 = 4 then 3 else σ 80 2) + 161 then σ 81 (j - 161 * (if σ 80 2 = 4 then 3 else σ 80 2)) else if σ 80 2 = 4 ∧ 0 ≤ j ∧ j < 483 then σ 82 (j + 161) else σ 82 j := by
  unfold eff_X7_save
  refine ⟨fun q a b => by rw [up_n _ _ _ a, ur_n _ _ b], by rw [up_s, ur_n _ _ (by decide)], fun j => by rw [up_n _ _ _ (by decide), ur_s]⟩
/-- both have saved -/
theorem IH_save {σ s : St} (hG : IG σ) (hI : IH σ) (h1 : s 10 1 = (if σ 10 1 + 1 < 4 then σ 10 1 + 1 else 0)) (h2 : s 10 2 = min (σ 10 2 + 1) 4) (h3 : ∀ q, 12 ≤ q → q < 48 → ¬ (12 + 9 * (σ 10 1).toNat ≤ q ∧ q ≤ 12 + 9 * (σ 10 1).toNat + 8) → s q = σ q) (h4 : CPs σ 1 s (12 + 9 * (σ 10 1).toNat)) (h5 : s 80 2 = (if σ 80 2 = 4 then 3 else σ 80 2) + 1) (h6 : ∀ j, s 82 j = if 161 * (if σ 80 2 = 4 then 3 else σ 80 2) ≤ j ∧ j < 161 * (if σ 80 2 = 4 then 3 else σ 80 2) + 161 then σ 81 (j - 161 * (if σ 80 2 = 4 then 3 else σ 80 2)) else if σ 80 2 = 4 ∧ 0 ≤ j ∧ j < 483 then σ 82 (j + 161) else σ 82 j) : IH s := by
  obtain ⟨⟨⟨a1, a2⟩, ⟨b1, b2⟩, e80⟩, f⟩ := hI
  rw [e80] at h5 h6
  have hm : min (σ 10 2 + 1) 4 = if σ 10 2 = 4 then 4 else σ 10 2 + 1 := by split <;> omega
  rw [hm] at h2
  refine ⟨⟨by rw [h1]; split <;> omega, by rw [h2]; split <;> omega, by rw [h5, h2]; split <;> rfl⟩, fun i x y => ?_⟩
  by_cases z : i = s 10 2 - 1
  · have e : slt s i = 12 + 9 * (σ 10 1).toNat := by
      unfold slt
      rw [z, h1]
      have : ((if σ 10 1 + 1 < 4 then σ 10 1 + 1 else 0) - s 10 2 + (s 10 2 - 1)) % 4 = σ 10 1 := by split <;> omega
      rw [this]
    have ei : i = if σ 10 2 = 4 then 3 else σ 10 2 := by rw [z, h2]; split <;> omega
    rw [e]
    refine SMc_move hG.1 hG.2 h4 (fun j c d => ?_)
    rw [h6, ← ei, if_pos ⟨by omega, by omega⟩]
    exact congrArg (σ 81) (by omega)
  · rw [h2] at y z
    by_cases c4 : σ 10 2 = 4
    · rw [if_pos c4] at y z
      have e : slt s i = slt σ (i + 1) := by
        unfold slt
        rw [h1, h2, if_pos c4, c4]
        have : ((if σ 10 1 + 1 < 4 then σ 10 1 + 1 else 0) - 4 + i) % 4 = (σ 10 1 - 4 + (i + 1)) % 4 := by split <;> omega
        rw [this]
      have hne : (σ 10 1 - 4 + (i + 1)) % 4 ≠ σ 10 1 := by omega
      obtain ⟨w, m⟩ := f (i + 1) (by omega) (by omega)
      rw [e]
      have es : slt σ (i + 1) = 12 + 9 * ((σ 10 1 - 4 + (i + 1)) % 4).toNat := by unfold slt; rw [c4]
      refine SMc_move w m (CPs.same (fun q u v => h3 q (by omega) (by omega) (by omega))) (fun j c d => ?_)
      rw [h6, if_pos c4, if_neg (by omega), if_pos ⟨c4, by omega, by omega⟩]
      exact congrArg (σ 82) (by omega)
    · rw [if_neg c4] at y z
      have e : slt s i = slt σ i := by
        unfold slt
        rw [h1, h2, if_neg c4]
        have : ((if σ 10 1 + 1 < 4 then σ 10 1 + 1 else 0) - (σ 10 2 + 1) + i) % 4 = (σ 10 1 - σ 10 2 + i) % 4 := by split <;> omega
        rw [this]
      have hne : (σ 10 1 - σ 10 2 + i) % 4 ≠ σ 10 1 := by omega
      obtain ⟨w, m⟩ := f i x (by omega)
      rw [e]
      have es : slt σ i = 12 + 9 * ((σ 10 1 - σ 10 2 + i) % 4).toNat := rfl
      refine SMc_move w m (CPs.same (fun q u v => h3 q (by omega) (by omega) (by omega))) (fun j c d => ?_)
      rw [h6, if_neg c4, if_neg (by omega), if_neg (fun u => c4 u.1)]
/-- a change of the text or the rules, behind a save, on both sides -/
theorem Inv.edit {k : Nat} {σ s1 s2 : St} (h : Inv k σ) (hC : ∀ q, ¬ (1 ≤ q ∧ q ≤ 9) → s1 q = eff_X6_prepareChange σ q) (hM : ∀ q, q ≠ 81 → s2 q = eff_X7_save s1 q) (hE : WFc s2 1 ∧ SMc s2 1 (s2 81) 0) : Inv (k + 1) s2 := by
  obtain ⟨c1, c2, ⟨c3, c4⟩, c5⟩ := saveC σ h.sv
  obtain ⟨m1, m2, m3⟩ := saveM s1
  have hb : (σ 10 1).toNat ≤ 3 := by have := h.sv.2.1; omega
  have n : ∀ q, q ≠ 80 → q ≠ 81 → q ≠ 82 → ¬ (1 ≤ q ∧ q ≤ 9) → s2 q = eff_X6_prepareChange σ q := fun q a b c d => by rw [hM q b, m1 q a c, hC q d]
  have n2 : ∀ q, 49 ≤ q → q ≠ 80 → q ≠ 81 → q ≠ 82 → s2 q = σ q := fun q a b c d => by rw [n q b c d (by omega), c1 q (by omega) (by omega) (by omega)]
  have e80 : s1 80 = σ 80 := by rw [hC 80 (by decide), c1 80 (by decide) (by decide) (by omega)]
  have e81 : s1 81 = σ 81 := by rw [hC 81 (by decide), c1 81 (by decide) (by decide) (by omega)]
  have e82 : s1 82 = σ 82 := by rw [hC 82 (by decide), c1 82 (by decide) (by decide) (by omega)]
  have f80 : s2 80 = ui (σ 80) 2 ((if σ 80 2 = 4 then 3 else σ 80 2) + 1) := by rw [hM 80 (by decide), m2, e80]
  obtain ⟨hG, hB, hE', hH, hT⟩ := h
  refine ⟨hE, IB_c (by rw [n 0 (by decide) (by decide) (by decide) (by decide), c2, ui_n _ _ (by decide)]) (n2 49 (by decide) (by decide) (by decide) (by decide)) (n2 83 (by decide) (by decide) (by decide) (by decide)) (by rw [f80, ui_n _ _ (by decide)]) hB, IE_c (n2 51 (by decide) (by decide) (by decide) (by decide)) (n2 84 (by decide) (by decide) (by decide) (by decide)) hE', ?_, IT_stale (fun q a b => n2 q (by omega) (by omega) (by omega) (by omega)) (n2 85 (by decide) (by decide) (by decide) (by decide)) (by rw [n 0 (by decide) (by decide) (by decide) (by decide), c2, ui_s]) hT⟩
  have r : ∀ q, 10 ≤ q → q < 49 → s2 q = eff_X6_prepareChange σ q := fun q a b => n q (by omega) (by omega) (by omega) (by omega)
  refine IH_save hG hH (by rw [r 10 (by decide) (by decide)]; exact c3) (by rw [r 10 (by decide) (by decide)]; exact c4) (fun q a b c => by rw [r q (by omega) (by omega), c1 q (by omega) (by omega) c]) (c5.trans (CPs.same (fun q a b => r q (by omega) (by omega)))) (by rw [f80, ui_s]) (fun j => ?_)
  rw [hM 82 (by decide), m3, e80, e81, e82]
