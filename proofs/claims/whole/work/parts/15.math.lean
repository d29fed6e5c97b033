-- the text and the rules as mathematics: length, bytes, sizes, elements, stop bytes, where they mean something
abbrev Gr : Type := Int × (Int → Int) × (Int → Int) × (Int → Int → Int) × (Int → Int)
abbrev gl (g : Gr) : Int := g.1
abbrev gt (g : Gr) : Int → Int := g.2.1
abbrev gs (g : Gr) : Int → Int := g.2.2.1
abbrev ge (g : Gr) : Int → Int → Int := g.2.2.2.1
abbrev gp (g : Gr) : Int → Int := g.2.2.2.2
def nrm (L : Int) (t sz : Int → Int) (el : Int → Int → Int) (sp : Int → Int) : Gr :=
  (L, fun p => if 0 ≤ p ∧ p < L then t p else 0, fun r => if 0 ≤ r ∧ r < 6 then sz r else 0, fun r i => if 0 ≤ r ∧ r < 6 ∧ 0 ≤ i ∧ i < sz r then el r i else 0, fun r => if 0 ≤ r ∧ r < 6 then sp r else 0)
def cg (σ : St) (b : Nat) : Gr := nrm (σ b 4) (σ (b + 2)) (σ (b + 4)) (fun r i => σ (b + 6) (r * 8 + i)) (σ (b + 8))
def mg (f : Int → Int) (o : Int) : Gr := nrm (f o) (fun p => f (o + 1 + p)) (fun r => f (o + 101 + r)) (fun r i => f (o + 107 + 8 * r + i)) (fun r => f (o + 155 + r))
def gWF (g : Gr) : Prop := (0 ≤ gl g ∧ gl g ≤ 100) ∧ (∀ p, 0 ≤ p → p < gl g → 32 ≤ gt g p ∧ gt g p ≤ 126) ∧ ∀ r, 0 ≤ r → r < 6 → (0 ≤ gs g r ∧ gs g r ≤ 8) ∧ (gp g r = -1 ∨ (32 ≤ gp g r ∧ gp g r ≤ 126)) ∧ (∀ i, 0 ≤ i → i < gs g r → 32 ≤ ge g r i ∧ ge g r i ≤ 126) ∧ (0 < gs g r → ge g r 0 ≠ 126 ∧ ¬ (65 ≤ ge g r 0 ∧ ge g r 0 ≤ 70))
theorem cg_L (σ : St) (b : Nat) : gl (cg σ b) = σ b 4 := rfl
theorem cg_t {σ : St} {b : Nat} {p : Int} (h0 : 0 ≤ p) (h1 : p < σ b 4) : gt (cg σ b) p = σ (b + 2) p := if_pos ⟨h0, h1⟩
theorem cg_s {σ : St} {b : Nat} {r : Int} (h0 : 0 ≤ r) (h1 : r < 6) : gs (cg σ b) r = σ (b + 4) r := if_pos ⟨h0, h1⟩
theorem cg_p {σ : St} {b : Nat} {r : Int} (h0 : 0 ≤ r) (h1 : r < 6) : gp (cg σ b) r = σ (b + 8) r := if_pos ⟨h0, h1⟩
theorem cg_e {σ : St} {b : Nat} {r i : Int} (h0 : 0 ≤ r) (h1 : r < 6) (h2 : 0 ≤ i) (h3 : i < σ (b + 4) r) : ge (cg σ b) r i = σ (b + 6) (r * 8 + i) := if_pos ⟨h0, h1, h2, h3⟩
theorem cg_congr {σ τ : St} {b : Nat} (h : ∀ q, b ≤ q → q ≤ b + 8 → τ q = σ q) : cg τ b = cg σ b := by
  unfold cg
  rw [h b (by omega) (by omega), h (b + 2) (by omega) (by omega), h (b + 4) (by omega) (by omega), h (b + 6) (by omega) (by omega), h (b + 8) (by omega) (by omega)]
theorem mg_L (f : Int → Int) (o : Int) : gl (mg f o) = f o := rfl
theorem mg_t {f : Int → Int} {o p : Int} (h0 : 0 ≤ p) (h1 : p < f o) : gt (mg f o) p = f (o + 1 + p) := if_pos ⟨h0, h1⟩
theorem mg_s {f : Int → Int} {o r : Int} (h0 : 0 ≤ r) (h1 : r < 6) : gs (mg f o) r = f (o + 101 + r) := if_pos ⟨h0, h1⟩
theorem mg_p {f : Int → Int} {o r : Int} (h0 : 0 ≤ r) (h1 : r < 6) : gp (mg f o) r = f (o + 155 + r) := if_pos ⟨h0, h1⟩
theorem mg_e {f : Int → Int} {o r i : Int} (h0 : 0 ≤ r) (h1 : r < 6) (h2 : 0 ≤ i) (h3 : i < f (o + 101 + r)) : ge (mg f o) r i = f (o + 107 + 8 * r + i) := if_pos ⟨h0, h1, h2, h3⟩
-- runs of digits or letters
def rn (g : Gr) (lo hi : Int) : Nat → Int → Int
  | 0, p => p
  | n + 1, p => if p < gl g ∧ lo ≤ gt g p ∧ gt g p ≤ hi then rn g lo hi n (p + 1) else p
def RE (g : Gr) (lo hi p : Int) : Int := rn g lo hi (gl g - p).toNat p
def runE (g : Gr) (lo hi p : Int) : Int := if p < RE g lo hi p then RE g lo hi p else -1
theorem RE_stop {g : Gr} {lo hi p : Int} (h : ¬ (p < gl g ∧ lo ≤ gt g p ∧ gt g p ≤ hi)) : RE g lo hi p = p := by
  unfold RE
  cases (gl g - p).toNat with
  | zero => rfl
  | succ n => exact if_neg h
theorem RE_step {g : Gr} {lo hi p : Int} (h : p < gl g ∧ lo ≤ gt g p ∧ gt g p ≤ hi) : RE g lo hi p = RE g lo hi (p + 1) := by
  unfold RE
  obtain ⟨n, hn⟩ : ∃ n : Nat, (gl g - p).toNat = n + 1 := ⟨(gl g - p).toNat - 1, by omega⟩
  rw [hn, show (gl g - (p + 1)).toNat = n by omega]
  exact if_pos h
theorem RE_ge (g : Gr) (lo hi : Int) : ∀ (n : Nat) (p : Int), n = (gl g - p).toNat → p ≤ RE g lo hi p := by
  intro n
  induction n with
  | zero =>
    intro p hp
    rw [RE_stop (by omega)]
    omega
  | succ n ih =>
    intro p hp
    by_cases h : p < gl g ∧ lo ≤ gt g p ∧ gt g p ≤ hi
    · rw [RE_step h]
      have := ih (p + 1) (by omega)
      omega
    · rw [RE_stop h]
      omega
theorem RE_le (g : Gr) (lo hi : Int) : ∀ (n : Nat) (p : Int), n = (gl g - p).toNat → p ≤ gl g → RE g lo hi p ≤ gl g := by
  intro n
  induction n with
  | zero =>
    intro p hp hl
    rw [RE_stop (by omega)]
    omega
  | succ n ih =>
    intro p hp hl
    by_cases h : p < gl g ∧ lo ≤ gt g p ∧ gt g p ≤ hi
    · rw [RE_step h]
      exact ih (p + 1) (by omega) (by omega)
    · rw [RE_stop h]
      omega
theorem runE_no {g : Gr} {lo hi p : Int} (h : ¬ (p < gl g ∧ lo ≤ gt g p ∧ gt g p ≤ hi)) : runE g lo hi p = -1 := by
  unfold runE
  rw [RE_stop h, if_neg (by omega)]
theorem runE_yes {g : Gr} {lo hi p : Int} (h : p < gl g ∧ lo ≤ gt g p ∧ gt g p ≤ hi) : runE g lo hi p = RE g lo hi (p + 1) := by
  unfold runE
  have := RE_ge g lo hi _ (p + 1) rfl
  rw [RE_step h, if_pos (by omega)]
/-- the run from the next place on, out of the next place's entry -/
theorem runE_next {g : Gr} {lo hi p : Int} (h0 : 0 ≤ p) (h : p < gl g ∧ lo ≤ gt g p ∧ gt g p ≤ hi) : runE g lo hi p = if runE g lo hi (p + 1) = -1 then p + 1 else runE g lo hi (p + 1) := by
  rw [runE_yes h]
  have h1 := RE_ge g lo hi _ (p + 1) rfl
  by_cases h2 : p + 1 < gl g ∧ lo ≤ gt g (p + 1) ∧ gt g (p + 1) ≤ hi
  · rw [runE_yes h2, RE_step h2]
    have h3 := RE_ge g lo hi _ (p + 1 + 1) rfl
    by_cases h4 : RE g lo hi (p + 1 + 1) = -1
    · exact absurd h4 (by omega)
    · rw [if_neg h4]
  · rw [runE_no h2, RE_stop h2, if_pos rfl]
-- the table of ends: T r i p is where rule r ends whose elements from i on begin at p
abbrev Tb : Type := Int → Int → Int → Int
def first (T : Tb) (p : Int) : Int := if T 0 0 p ≠ -1 then 0 else if T 1 0 p ≠ -1 then 1 else if T 2 0 p ≠ -1 then 2 else if T 3 0 p ≠ -1 then 3 else if T 4 0 p ≠ -1 then 4 else if T 5 0 p ≠ -1 then 5 else -1
/-- v is the lowest rule above y that matches at p, or -1 -/
def isF (T : Tb) (p y v : Int) : Prop := (v = -1 ∧ ∀ r, y < r → r < 6 → T r 0 p = -1) ∨ (y < v ∧ v < 6 ∧ T v 0 p ≠ -1 ∧ ∀ r, y < r → r < v → T r 0 p = -1)
theorem isF_first {T : Tb} {p v : Int} (h : isF T p (-1) v) : v = first T p := by
  unfold first
  rcases h with ⟨h1, h2⟩ | ⟨h1, h2, h3, h4⟩
  · simp [h2 0 (by decide) (by decide), h2 1 (by decide) (by decide), h2 2 (by decide) (by decide), h2 3 (by decide) (by decide), h2 4 (by decide) (by decide), h2 5 (by decide) (by decide), h1]
  · rcases (show v = 0 ∨ v = 1 ∨ v = 2 ∨ v = 3 ∨ v = 4 ∨ v = 5 by omega) with e | e | e | e | e | e <;> subst e
    · simp [h3]
    · simp [h3, h4 0 (by decide) (by decide)]
    · simp [h3, h4 0 (by decide) (by decide), h4 1 (by decide) (by decide)]
    · simp [h3, h4 0 (by decide) (by decide), h4 1 (by decide) (by decide), h4 2 (by decide) (by decide)]
    · simp [h3, h4 0 (by decide) (by decide), h4 1 (by decide) (by decide), h4 2 (by decide) (by decide), h4 3 (by decide) (by decide)]
    · simp [h3, h4 0 (by decide) (by decide), h4 1 (by decide) (by decide), h4 2 (by decide) (by decide), h4 3 (by decide) (by decide), h4 4 (by decide) (by decide)]
theorem first_isF (T : Tb) (p : Int) : isF T p (-1) (first T p) := by
  unfold first isF
  by_cases h0 : T 0 0 p = -1
  · by_cases h1 : T 1 0 p = -1
    · by_cases h2 : T 2 0 p = -1
      · by_cases h3 : T 3 0 p = -1
        · by_cases h4 : T 4 0 p = -1
          · by_cases h5 : T 5 0 p = -1
            · left
              simp only [h0, h1, h2, h3, h4, h5, ne_eq, not_true_eq_false, if_false]
              refine ⟨trivial, fun r a b => ?_⟩
              rcases (show r = 0 ∨ r = 1 ∨ r = 2 ∨ r = 3 ∨ r = 4 ∨ r = 5 by omega) with e | e | e | e | e | e <;> subst e <;> assumption
            · right
              simp only [h0, h1, h2, h3, h4, h5, ne_eq, not_true_eq_false, not_false_eq_true, if_false, if_true]
              refine ⟨by decide, by decide, trivial, fun r a b => ?_⟩
              rcases (show r = 0 ∨ r = 1 ∨ r = 2 ∨ r = 3 ∨ r = 4 by omega) with e | e | e | e | e <;> subst e <;> assumption
          · right
            simp only [h0, h1, h2, h3, h4, ne_eq, not_true_eq_false, not_false_eq_true, if_false, if_true]
            refine ⟨by decide, by decide, trivial, fun r a b => ?_⟩
            rcases (show r = 0 ∨ r = 1 ∨ r = 2 ∨ r = 3 by omega) with e | e | e | e <;> subst e <;> assumption
        · right
          simp only [h0, h1, h2, h3, ne_eq, not_true_eq_false, not_false_eq_true, if_false, if_true]
          refine ⟨by decide, by decide, trivial, fun r a b => ?_⟩
          rcases (show r = 0 ∨ r = 1 ∨ r = 2 by omega) with e | e | e <;> subst e <;> assumption
      · right
        simp only [h0, h1, h2, ne_eq, not_true_eq_false, not_false_eq_true, if_false, if_true]
        refine ⟨by decide, by decide, trivial, fun r a b => ?_⟩
        rcases (show r = 0 ∨ r = 1 by omega) with e | e <;> subst e <;> assumption
    · right
      simp only [h0, h1, ne_eq, not_true_eq_false, not_false_eq_true, if_false, if_true]
      refine ⟨by decide, by decide, trivial, fun r a b => ?_⟩
      rcases (show r = 0 by omega) with e
      subst e
      assumption
  · right
    simp only [h0, ne_eq, not_false_eq_true, if_true]
    exact ⟨by decide, by decide, trivial, fun r a b => by omega⟩
theorem first_rng (T : Tb) (p : Int) : first T p = -1 ∨ (0 ≤ first T p ∧ first T p < 6 ∧ T (first T p) 0 p ≠ -1) := by
  rcases first_isF T p with h | h
  · exact Or.inl h.1
  · exact Or.inr ⟨by omega, h.2.1, h.2.2.1⟩
def eE (g : Gr) (T : Tb) (e p : Int) : Int := if 65 ≤ e ∧ e ≤ 70 then T (e - 65) 0 p else if e = 35 then runE g 48 57 p else if e = 64 then runE g 97 122 p else if p < gl g ∧ gt g p = e then p + 1 else -1
def rhs (g : Gr) (T : Tb) (r i p : Int) : Int := if i = gs g r then (if i = 0 then -1 else p) else if ge g r i = 126 then (if T r (i + 1) p ≠ -1 then T r (i + 1) p else if first T p ≠ -1 then T r i (T (first T p) 0 p) else if p = gl g ∨ gt g p = gp g r then -1 else T r i (p + 1)) else (if eE g T (ge g r i) p = -1 then -1 else T r (i + 1) (eE g T (ge g r i) p))
def GoodAt (g : Gr) (T : Tb) (p : Int) : Prop := ∀ r, 0 ≤ r → r < 6 → ∀ i, 0 ≤ i → i ≤ gs g r → T r i p = rhs g T r i p
def Good (g : Gr) (T : Tb) : Prop := ∀ p, 0 ≤ p → p ≤ gl g → GoodAt g T p
-- the class's table
def ct (σ : St) : Tb := fun r i p => σ 60 ((r * 9 + i) * 101 + p)
def tget (σ : St) (r i p : Int) : Int := if 0 ≤ p then ct σ r i p else -1
def MB (σ : St) : Prop := (∀ j, -1 ≤ σ 54 j ∧ σ 54 j ≤ 100) ∧ (∀ j, -1 ≤ σ 56 j ∧ σ 56 j ≤ 100) ∧ (∀ j, -1 ≤ σ 58 j ∧ σ 58 j ≤ 5) ∧ (∀ j, -1 ≤ σ 60 j ∧ σ 60 j ≤ 100)
theorem cell_inj {r i p r2 i2 p2 : Int} (h : (r * 9 + i) * 101 + p = (r2 * 9 + i2) * 101 + p2) (hi : 0 ≤ i ∧ i ≤ 8) (hp : 0 ≤ p ∧ p ≤ 100) (hi2 : 0 ≤ i2 ∧ i2 ≤ 8) (hp2 : 0 ≤ p2 ∧ p2 ≤ 100) : r = r2 ∧ i = i2 ∧ p = p2 := by
  have h1 : r * 9 + i = r2 * 9 + i2 := by omega
  exact ⟨by omega, by omega, by omega⟩
-- the reference's table
def mt (σ : St) : Tb := fun r i p => σ 85 (101 * (9 * r + i) + p)
def M8 (σ : St) : Prop := ∀ j, -1 ≤ σ 85 j ∧ σ 85 j ≤ 100
theorem m7_t {f : Int → Int} {p : Int} (h0 : 0 ≤ p) (h1 : p < f 0) : gt (mg f 0) p = f (1 + p) := by
  rw [mg_t h0 h1, Int.zero_add]
theorem m7_s {f : Int → Int} {r : Int} (h0 : 0 ≤ r) (h1 : r < 6) : gs (mg f 0) r = f (101 + r) := by
  rw [mg_s h0 h1, Int.zero_add]
theorem m7_p {f : Int → Int} {r : Int} (h0 : 0 ≤ r) (h1 : r < 6) : gp (mg f 0) r = f (155 + r) := by
  rw [mg_p h0 h1, Int.zero_add]
theorem m7_e {f : Int → Int} {r i : Int} (h0 : 0 ≤ r) (h1 : r < 6) (h2 : 0 ≤ i) (h3 : i < f (101 + r)) : ge (mg f 0) r i = f (107 + 8 * r + i) := by
  rw [mg_e h0 h1 h2 (by rw [Int.zero_add]; exact h3), Int.zero_add]
theorem mcell_inj {r i p r2 i2 p2 : Int} (h : 101 * (9 * r + i) + p = 101 * (9 * r2 + i2) + p2) (hi : 0 ≤ i ∧ i ≤ 8) (hp : 0 ≤ p ∧ p ≤ 100) (hi2 : 0 ≤ i2 ∧ i2 ≤ 8) (hp2 : 0 ≤ p2 ∧ p2 ≤ 100) : r = r2 ∧ i = i2 ∧ p = p2 := by
  have h1 : 9 * r + i = 9 * r2 + i2 := by omega
  exact ⟨by omega, by omega, by omega⟩
