/-- what the rest of rule r from element i on (i from 1) is at p, out of a state's table -/
def rstv (s : St) (r i p : Int) : Int := if i = s 5 r then p else if s 7 (r * 8 + i) = 126 then ans_X2_waterRestEnd r i p s else tget s r (i + 1) (ans_X2_elementEnd (s 7 (r * 8 + i)) p s)
theorem wre_congr {s t : St} {r i p : Int} (h1 : t 1 = s 1) (h3 : t 3 = s 3) (h9 : t 9 = s 9) (h58 : t 58 = s 58) (hM : MB s) (hp : 0 ≤ p ∧ p ≤ 100) (hL : s 1 4 ≤ 100) (ha : ct t r (i + 1) p = ct s r (i + 1) p) (hb : ∀ f, 0 ≤ f → f < 6 → ct t f 0 p = ct s f 0 p) (hne : ∀ f, 0 ≤ f → f < 6 → ct s f 0 p ≠ p) (hc : ∀ q, 0 ≤ q → q ≤ 100 → q ≠ p → ct t r i q = ct s r i q) : ans_X2_waterRestEnd r i p t = ans_X2_waterRestEnd r i p s := by
  unfold ans_X2_waterRestEnd
  rw [ha, h58, h1, h3, h9]
  by_cases a : ¬ ct s r (i + 1) p = -1
  · rw [if_pos a, if_pos a]
  · rw [if_neg a, if_neg a]
    have b58 := hM.2.2.1 p
    by_cases b : ¬ s 58 p = -1
    · rw [if_pos b, if_pos b, hb _ (by omega) (by omega)]
      unfold tget
      have v := hM.2.2.2 ((s 58 p * 9 + 0) * 101 + p)
      have v : -1 ≤ ct s (s 58 p) 0 p ∧ ct s (s 58 p) 0 p ≤ 100 := v
      by_cases c : 0 ≤ ct s (s 58 p) 0 p
      · rw [if_pos c, if_pos c]
        exact hc _ c v.2 (hne _ (by omega) (by omega))
      · rw [if_neg c, if_neg c]
    · rw [if_neg b, if_neg b]
      by_cases c : ¬ p < s 1 4 ∨ s 3 p = s 9 r
      · rw [if_pos c, if_pos c]
      · rw [if_neg c, if_neg c]
        exact hc _ (by omega) (by omega) (by omega)
theorem rstv_congr {s t : St} {r i p : Int} (hq : ∀ q, q ≠ 60 → t q = s q) (hM : MB s) (hp : 0 ≤ p ∧ p ≤ 100) (hL : s 1 4 ≤ 100) (hx : 0 ≤ s 7 (r * 8 + i)) (hi : 1 ≤ i) (ha : ∀ q, 0 ≤ q → q ≤ 100 → i ≠ s 5 r → ct t r (i + 1) q = ct s r (i + 1) q) (hb : ∀ f, 0 ≤ f → f < 6 → ct t f 0 p = ct s f 0 p) (hne : ∀ f, 0 ≤ f → f < 6 → ct s f 0 p ≠ p) (hc : ∀ q, 0 ≤ q → q ≤ 100 → q ≠ p → i ≠ s 5 r → ct t r i q = ct s r i q) : rstv t r i p = rstv s r i p := by
  unfold rstv
  rw [hq 5 (by decide), hq 7 (by decide)]
  by_cases e : i = s 5 r
  · rw [if_pos e, if_pos e]
  · rw [if_neg e, if_neg e]
    by_cases w : s 7 (r * 8 + i) = 126
    · rw [if_pos w, if_pos w]
      exact wre_congr (hq 1 (by decide)) (hq 3 (by decide)) (hq 9 (by decide)) (hq 58 (by decide)) hM hp hL (ha p hp.1 hp.2 e) hb hne (fun q a b c => hc q a b c e)
    · rw [if_neg w, if_neg w]
      have ee : ans_X2_elementEnd (s 7 (r * 8 + i)) p t = ans_X2_elementEnd (s 7 (r * 8 + i)) p s := by
        refine eEnd_congr (hq 1 (by decide)) (hq 3 (by decide)) (hq 54 (by decide)) (hq 56 (by decide)) ?_
        by_cases c : 65 ≤ s 7 (r * 8 + i) ∧ s 7 (r * 8 + i) ≤ 70
        · exact Or.inr (hb _ (by omega) (by omega))
        · exact Or.inl c
      rw [ee]
      have eb := eEnd_b hM hx hp.1 hL
      unfold tget
      by_cases c : 0 ≤ ans_X2_elementEnd (s 7 (r * 8 + i)) p s
      · rw [if_pos c, if_pos c]
        exact ha _ c eb.2 e
      · rw [if_neg c, if_neg c]
theorem wre_b {s : St} {r i p : Int} (hM : MB s) (hp : p ≤ 100) : -1 ≤ ans_X2_waterRestEnd r i p s ∧ ans_X2_waterRestEnd r i p s ≤ 100 := by
  unfold ans_X2_waterRestEnd
  split
  · exact hM.2.2.2 _
  · split
    · exact tget_b hM _ _ _
    · split
      · exact ⟨by decide, by decide⟩
      · exact hM.2.2.2 _
def MR (σ : St) (r p i : Int) (s : St) : Prop := MB s ∧ (∀ q, q ≠ 60 → s q = σ q) ∧ (∀ r' i' q, 0 ≤ r' → r' < 6 → 0 ≤ i' → i' ≤ 8 → 0 ≤ q → q ≤ 100 → (r' ≠ r ∨ i' = 0 ∨ q ≠ p ∨ i' ≤ i) → ct s r' i' q = ct σ r' i' q) ∧ (∀ i', 1 ≤ i' → i < i' → i' ≤ σ 5 r → ct s r i' p = rstv s r i' p) ∧ (∀ f, 0 ≤ f → f < 6 → ct s f 0 p ≠ p)
theorem MR_step {σ : St} {r p i : Int} {s : St} (hr : 0 ≤ r ∧ r < 6) (hp : 0 ≤ p ∧ p ≤ 100) (hi : 1 ≤ i) (hi2 : i ≤ σ 5 r) (h8 : σ 5 r ≤ 8) (hL : σ 1 4 ≤ 100) (hx : ∀ i', 0 ≤ i' → i' < σ 5 r → 0 ≤ σ 7 (r * 8 + i')) (h : MR σ r p i s) (v : Int) (hv : v = rstv s r i p) (hb : -1 ≤ v ∧ v ≤ 100) : MR σ r p (i - 1) (up s 60 ((r * 9 + i) * 101 + p) v) := by
  obtain ⟨h1, h2, h3, h4, h5⟩ := h
  have c0 : ∀ r' i' q : Int, 0 ≤ i' → i' ≤ 8 → 0 ≤ q → q ≤ 100 → ct (up s 60 ((r * 9 + i) * 101 + p) v) r' i' q = if r' = r ∧ i' = i ∧ q = p then v else ct s r' i' q := fun r' i' q a b c d => ct_up ⟨by omega, by omega⟩ hp ⟨a, b⟩ ⟨c, d⟩
  have fq : ∀ q, q ≠ 60 → up s 60 ((r * 9 + i) * 101 + p) v q = s q := fun q a => up_n _ _ _ a
  have s5 : s 5 = σ 5 := h2 5 (by decide)
  have s7 : s 7 = σ 7 := h2 7 (by decide)
  have s1 : s 1 = σ 1 := h2 1 (by decide)
  refine ⟨MB_60 h1 hb, fun q a => by rw [fq q a]; exact h2 q a, fun r' i' q a b c d e f g => ?_, fun i' a b c => ?_, fun f a b => by rw [c0 f 0 p (by decide) (by decide) hp.1 hp.2, if_neg (by omega)]; exact h5 f a b⟩
  · rw [c0 r' i' q c d e f, if_neg (by omega)]
    exact h3 r' i' q a b c d e f (by omega)
  · have hs : rstv (up s 60 ((r * 9 + i) * 101 + p) v) r i' p = rstv s r i' p := by
      by_cases hz : i' = σ 5 r
      · unfold rstv
        rw [fq 5 (by decide), s5, if_pos hz, if_pos hz]
      · refine rstv_congr fq h1 hp (by rw [s1]; exact hL) (by rw [s7]; exact hx i' (by omega) (by omega)) a (fun q x y z => ?_) (fun f x y => ?_) h5 (fun q x y w z => ?_)
        · rw [c0 r (i' + 1) q (by omega) (by rw [s5] at z; omega) x y, if_neg (by omega)]
        · rw [c0 f 0 p (by decide) (by decide) hp.1 hp.2, if_neg (by omega)]
        · rw [c0 r i' q (by omega) (by omega) x y, if_neg (by omega)]
    rw [hs]
    by_cases iz : i' = i
    · subst iz
      rw [c0 r i' p (by omega) (by omega) hp.1 hp.2, if_pos ⟨rfl, rfl, rfl⟩, hv]
    · rw [c0 r i' p (by omega) (by omega) hp.1 hp.2, if_neg (by omega)]
      exact h4 i' a (by omega) c
theorem l_X2_matchRests (r p : Int) (σ : St) (hr : 0 ≤ r ∧ r < 6) (hp : 0 ≤ p ∧ p ≤ 100) (hW : gWF (cg σ 1)) (Q : St → Prop) (hQ : ∀ s, MR σ r p 0 s → Q s) : ∀ (d : Nat) (i : Int) (s : St), i = d → i ≤ σ 5 r - 1 ∨ i ≤ 0 → MR σ r p i s → ∃ n, L_X2_matchRests_29 Q r p n i s := by
  obtain ⟨⟨t0, t1⟩, hT, hR⟩ := cgW hW
  obtain ⟨⟨z0, z1⟩, zs, ze, zf⟩ := hR r hr.1 hr.2
  intro d
  induction d with
  | zero =>
    intro i s hi hs hI
    refine ⟨1, ⟨by omega, by omega⟩, fun _ => hQ s ?_, fun h => absurd (by omega) h⟩
    rw [show i = 0 by omega] at hI
    exact hI
  | succ d ih =>
    intro i s hi hs hI
    obtain ⟨i1, i2, i3, i4, i5⟩ := id hI
    have r7 : s 7 = σ 7 := i2 7 (by decide)
    have r5 : s 5 = σ 5 := i2 5 (by decide)
    have r1 : s 1 = σ 1 := i2 1 (by decide)
    have r3 : s 3 = σ 3 := i2 3 (by decide)
    have r9 : s 9 = σ 9 := i2 9 (by decide)
    have hb := ze i (by omega) (by omega)
    have step := fun v hv hvb => MR_step hr hp (by omega) (by omega) z1 t1 (fun j a b => by have := ze j a b; omega) hI v hv hvb
    have tx : p < s 1 4 → 32 ≤ s 3 p ∧ s 3 p ≤ 126 := fun a => by
      rw [r1] at a
      rw [r3]
      exact hT p hp.1 a
    have rb : -1 ≤ rstv s r i p ∧ rstv s r i p ≤ 100 := by
      unfold rstv
      split
      · omega
      · split
        · exact wre_b i1 hp.2
        · exact tget_b i1 _ _ _
    obtain ⟨n, hn⟩ := ih (i - 1) _ (by omega) (by omega) (step (rstv s r i p) rfl rb)
    refine ⟨n + 1, ⟨by omega, by omega⟩, fun h => absurd h (by omega), fun _ => ⟨⟨hr.1, hr.2, by omega, by omega⟩, fun r11 e11 => ?_⟩⟩
    have e11 : r11 = s 7 (r * 8 + i) := e11
    refine ⟨by rw [e11, r7]; exact ⟨by omega, by omega⟩, fun a => ⟨⟨by rw [e11, r7]; omega, by rw [e11, r7]; omega, hp.1, hp.2, by rw [r1]; exact t0, by rw [r1]; exact t1, i1, fun b => ?_⟩, fun r17 e17 => ?_⟩, fun a => ⟨⟨hr.1, by omega, by omega, by omega, hp.1, hp.2, by rw [r1]; exact t0, by rw [r1]; exact t1, i1, tx, ?_⟩, fun r28 e28 => ⟨⟨hr.1, by omega, by omega, by omega, hp.1, hp.2⟩, fun s31 e31 => ?_⟩⟩⟩
    · have := tx b
      exact ⟨by omega, by omega⟩
    · have eb := eEnd_b i1 (x := r11) (p := p) (by rw [e11, r7]; omega) hp.1 (by rw [r1]; exact t1)
      rw [← e17] at eb
      refine ⟨⟨hr.1, by omega, by omega, by omega, eb.1, eb.2⟩, fun r21 e21 => ⟨⟨hr.1, by omega, by omega, by omega, hp.1, hp.2⟩, fun s24 e24 => ?_⟩⟩
      have e21 : r21 = rstv s r i p := by
        unfold rstv
        rw [if_neg (by rw [r5]; omega), ← e11, if_neg a, e21, e17]
        rfl
      rw [show s24 = up s 60 ((r * 9 + i) * 101 + p) r21 from e24, e21]
      exact hn
    · rw [r9]
      exact ⟨by omega, by omega⟩
    · have e28 : r28 = rstv s r i p := by
        unfold rstv
        rw [if_neg (by rw [r5]; omega), ← e11, if_pos a, e28]
      rw [show s31 = up s 60 ((r * 9 + i) * 101 + p) r28 from e31, e28]
      exact hn
theorem v_X2_matchRests (x1 x2 : Int) (σ : St) (hp : pre_X2_matchRests x1 x2 σ) : V_X2_matchRests x1 x2 σ (post_X2_matchRests x1 x2 σ) := by
  obtain ⟨p0, p1, p2, p3, hM, hW, hne⟩ := hp
  obtain ⟨⟨t0, t1⟩, hT, hR⟩ := cgW hW
  obtain ⟨⟨z0, z1⟩, zs, ze, zf⟩ := hR x1 p0 (by omega)
  have fin : ∀ s, MR σ x1 x2 0 s → post_X2_matchRests x1 x2 σ s := fun s h => by
    obtain ⟨h1, h2, h3, h4, h5⟩ := h
    exact ⟨h1, h2, fun r i p a b c d e f g => h3 r i p a b c d e f (by omega), fun i a b => h4 i a (by omega) b⟩
  refine ⟨⟨p0, by omega⟩, fun r3 e3 => ?_⟩
  have e3 : r3 = σ 5 x1 := e3
  refine ⟨⟨by omega, by omega⟩, fun a => ?_, fun a => ⟨⟨p0, p1, by omega, by omega, p2, p3⟩, fun s34 e34 => ?_⟩⟩
  · have hI : MR σ x1 x2 (r3 - 1) σ := ⟨hM, fun _ _ => rfl, fun _ _ _ _ _ _ _ _ _ _ => rfl, fun i' b c d => by omega, hne⟩
    refine ⟨1, ⟨by omega, by omega⟩, fun _ => fin _ ⟨hM, fun _ _ => rfl, fun _ _ _ _ _ _ _ _ _ _ => rfl, fun i' b c d => by omega, hne⟩, fun h => absurd (by omega) h⟩
  · have hI : MR σ x1 x2 r3 σ := ⟨hM, fun _ _ => rfl, fun _ _ _ _ _ _ _ _ _ _ => rfl, fun i' b c d => by omega, hne⟩
    have st := MR_step ⟨p0, by omega⟩ ⟨p2, p3⟩ (by omega) (by omega) z1 t1 (fun j a b => by have := ze j a b; omega) hI x2 (by unfold rstv; rw [if_pos e3]) (by omega)
    rw [show s34 = up σ 60 ((x1 * 9 + r3) * 101 + x2) x2 from e34]
    exact l_X2_matchRests x1 x2 σ ⟨p0, by omega⟩ ⟨p2, p3⟩ hW (post_X2_matchRests x1 x2 σ) fin (r3 - 1).toNat (r3 - 1) _ (by omega) (by omega) st
