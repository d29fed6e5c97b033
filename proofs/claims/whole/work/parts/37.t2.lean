theorem ct_up {s : St} {r i p r2 i2 p2 v : Int} (hi : 0 ≤ i ∧ i ≤ 8) (hp : 0 ≤ p ∧ p ≤ 100) (hi2 : 0 ≤ i2 ∧ i2 ≤ 8) (hp2 : 0 ≤ p2 ∧ p2 ≤ 100) : ct (up s 60 ((r * 9 + i) * 101 + p) v) r2 i2 p2 = if r2 = r ∧ i2 = i ∧ p2 = p then v else ct s r2 i2 p2 := by
  unfold ct
  rw [up_s]
  unfold ui
  by_cases h : r2 = r ∧ i2 = i ∧ p2 = p
  · obtain ⟨rfl, rfl, rfl⟩ := h
    rw [if_pos rfl, if_pos ⟨rfl, rfl, rfl⟩]
  · rw [if_neg h, if_neg]
    intro z
    have := cell_inj z hi2 hp2 hi hp
    exact h ⟨by omega, by omega, by omega⟩
theorem ct_n {s : St} {k : Nat} {f : Int → Int} (h : k ≠ 60) : ct (ur s k f) = ct s := by
  funext r i p
  unfold ct
  rw [ur_n _ _ (Ne.symm h)]
theorem ct_row {s t : St} (h : t 60 = s 60) : ct t = ct s := by
  funext r i p
  unfold ct
  rw [h]
theorem MB_60 {s : St} (h : MB s) {j v : Int} (hv : -1 ≤ v ∧ v ≤ 100) : MB (up s 60 j v) := by
  refine ⟨fun q => ?_, fun q => ?_, fun q => ?_, fun q => ?_⟩
  · rw [up_n _ _ _ (by decide)]; exact h.1 q
  · rw [up_n _ _ _ (by decide)]; exact h.2.1 q
  · rw [up_n _ _ _ (by decide)]; exact h.2.2.1 q
  · rw [up_s]
    unfold ui
    split
    · exact hv
    · exact h.2.2.2 q
theorem MB_58 {s : St} (h : MB s) {j v : Int} (hv : -1 ≤ v ∧ v ≤ 5) : MB (up s 58 j v) := by
  refine ⟨fun q => ?_, fun q => ?_, fun q => ?_, fun q => ?_⟩
  · rw [up_n _ _ _ (by decide)]; exact h.1 q
  · rw [up_n _ _ _ (by decide)]; exact h.2.1 q
  · rw [up_s]
    unfold ui
    split
    · exact hv
    · exact h.2.2.1 q
  · rw [up_n _ _ _ (by decide)]; exact h.2.2.2 q
/-- what an element of a well-formed rule is in the class's cells -/
theorem cgW {σ : St} (h : gWF (cg σ 1)) : (0 ≤ σ 1 4 ∧ σ 1 4 ≤ 100) ∧ (∀ p, 0 ≤ p → p < σ 1 4 → 32 ≤ σ 3 p ∧ σ 3 p ≤ 126) ∧ ∀ r, 0 ≤ r → r < 6 → (0 ≤ σ 5 r ∧ σ 5 r ≤ 8) ∧ (σ 9 r = -1 ∨ (32 ≤ σ 9 r ∧ σ 9 r ≤ 126)) ∧ (∀ i, 0 ≤ i → i < σ 5 r → 32 ≤ σ 7 (r * 8 + i) ∧ σ 7 (r * 8 + i) ≤ 126) ∧ (0 < σ 5 r → σ 7 (r * 8 + 0) ≠ 126 ∧ ¬ (65 ≤ σ 7 (r * 8 + 0) ∧ σ 7 (r * 8 + 0) ≤ 70)) := by
  obtain ⟨h1, h2, h3⟩ := h
  refine ⟨h1, fun p a b => ?_, fun r a b => ?_⟩
  · have := h2 p a b
    rw [cg_t a b] at this
    exact this
  · obtain ⟨g1, g2, g3, g4⟩ := h3 r a b
    rw [cg_s a b] at g1 g3 g4
    rw [cg_p a b] at g2
    refine ⟨g1, g2, fun i c d => ?_, fun c => ?_⟩
    · have := g3 i c d
      rw [cg_e a b c d] at this
      exact this
    · have := g4 c
      rw [cg_e a b (by decide) c] at this
      exact this
theorem eEnd_b {σ : St} (h : MB σ) {x p : Int} (hx : 0 ≤ x) (hp : 0 ≤ p) (hL : σ 1 4 ≤ 100) : -1 ≤ ans_X2_elementEnd x p σ ∧ ans_X2_elementEnd x p σ ≤ 100 := by
  unfold ans_X2_elementEnd
  split
  · exact h.1 p
  · split
    · exact h.2.1 p
    · split
      · exact h.2.2.2 _
      · split
        · omega
        · omega
/-- an element's end reads the text, the runs, and whole islands -/
theorem eEnd_congr {s σ : St} {x p : Int} (h1 : s 1 = σ 1) (h3 : s 3 = σ 3) (h54 : s 54 = σ 54) (h56 : s 56 = σ 56) (hx : ¬ (65 ≤ x ∧ x ≤ 70) ∨ ct s (x - 65) 0 p = ct σ (x - 65) 0 p) : ans_X2_elementEnd x p s = ans_X2_elementEnd x p σ := by
  unfold ans_X2_elementEnd
  rw [h1, h3, h54, h56]
  by_cases a : x = 35
  · rw [if_pos a, if_pos a]
  · rw [if_neg a, if_neg a]
    by_cases b : x = 64
    · rw [if_pos b, if_pos b]
    · rw [if_neg b, if_neg b]
      by_cases c : 65 ≤ x ∧ x ≤ 70
      · rw [if_pos c, if_pos c]
        exact hx.resolve_left (fun z => z c)
      · rw [if_neg c, if_neg c]
def MI (σ : St) (p y : Int) (s : St) : Prop := MB s ∧ (∀ q, q ≠ 58 → q ≠ 60 → s q = σ q) ∧ (∀ j, j ≠ p → s 58 j = σ 58 j) ∧ (∀ r i q, 0 ≤ r → r < 6 → 0 ≤ i → i ≤ 8 → 0 ≤ q → q ≤ 100 → (i ≠ 0 ∨ q ≠ p ∨ r ≤ y) → ct s r i q = ct σ r i q) ∧ (∀ r, y < r → r < 6 → ct s r 0 p = if σ 5 r ≤ 0 then -1 else tget σ r 1 (ans_X2_elementEnd (σ 7 (r * 8 + 0)) p σ)) ∧ isF (ct s) p y (s 58 p)
theorem MI_step {σ : St} {p y : Int} {s : St} (hy : 0 ≤ y) (hy5 : y ≤ 5) (hp : 0 ≤ p ∧ p ≤ 100) (h : MI σ p y s) (v : Int) (hv : v = if σ 5 y ≤ 0 then -1 else tget σ y 1 (ans_X2_elementEnd (σ 7 (y * 8 + 0)) p σ)) (hb : -1 ≤ v ∧ v ≤ 100) :
    (v = -1 → MI σ p (y - 1) (up s 60 ((y * 9 + 0) * 101 + p) v)) ∧ (v ≠ -1 → MI σ p (y - 1) (up (up s 60 ((y * 9 + 0) * 101 + p) v) 58 p y)) := by
  obtain ⟨h1, h2, h3, h4, h5, h6⟩ := h
  have c0 : ∀ r i q : Int, 0 ≤ i → i ≤ 8 → 0 ≤ q → q ≤ 100 → ct (up s 60 ((y * 9 + 0) * 101 + p) v) r i q = if r = y ∧ i = 0 ∧ q = p then v else ct s r i q := fun r i q a b c d => ct_up ⟨by decide, by decide⟩ hp ⟨a, b⟩ ⟨c, d⟩
  have c1 : ct (up (up s 60 ((y * 9 + 0) * 101 + p) v) 58 p y) = ct (up s 60 ((y * 9 + 0) * 101 + p) v) := ct_row (up_n _ _ _ (by decide))
  have fr : ∀ r i q, 0 ≤ r → r < 6 → 0 ≤ i → i ≤ 8 → 0 ≤ q → q ≤ 100 → (i ≠ 0 ∨ q ≠ p ∨ r ≤ y - 1) → ct (up s 60 ((y * 9 + 0) * 101 + p) v) r i q = ct σ r i q := fun r i q a b c d e f g => by
    rw [c0 r i q c d e f, if_neg (by omega)]
    exact h4 r i q a b c d e f (by omega)
  have vl : ∀ r, y - 1 < r → r < 6 → ct (up s 60 ((y * 9 + 0) * 101 + p) v) r 0 p = if σ 5 r ≤ 0 then -1 else tget σ r 1 (ans_X2_elementEnd (σ 7 (r * 8 + 0)) p σ) := fun r a b => by
    rw [c0 r 0 p (by decide) (by decide) hp.1 hp.2]
    by_cases e : r = y
    · subst e
      rw [if_pos ⟨rfl, rfl, rfl⟩, hv]
    · rw [if_neg (fun z => e z.1)]
      exact h5 r (by omega) b
  have cy : ∀ r, y < r → ct (up s 60 ((y * 9 + 0) * 101 + p) v) r 0 p = ct s r 0 p := fun r a => by
    rw [c0 r 0 p (by decide) (by decide) hp.1 hp.2, if_neg (by omega)]
  have cv : ct (up s 60 ((y * 9 + 0) * 101 + p) v) y 0 p = v := by
    rw [c0 y 0 p (by decide) (by decide) hp.1 hp.2, if_pos ⟨rfl, rfl, rfl⟩]
  refine ⟨fun e => ⟨MB_60 h1 hb, fun q a b => ?_, fun j a => ?_, fr, vl, ?_⟩, fun e => ⟨MB_58 (MB_60 h1 hb) ⟨by omega, hy5⟩, fun q a b => ?_, fun j a => ?_, fun r i q a b c d e f g => by rw [c1]; exact fr r i q a b c d e f g, fun r a b => by rw [c1]; exact vl r a b, ?_⟩⟩
  · rw [up_n _ _ _ b]; exact h2 q a b
  · rw [up_n _ _ _ (by decide)]; exact h3 j a
  · rw [up_n (q := 58) _ _ _ (by decide)]
    rcases h6 with ⟨g1, g2⟩ | ⟨g1, g2, g3, g4⟩
    · refine Or.inl ⟨g1, fun r a b => ?_⟩
      by_cases q : r = y
      · subst q; rw [cv]; exact e
      · rw [cy r (by omega)]; exact g2 r (by omega) b
    · refine Or.inr ⟨by omega, g2, by rw [cy _ g1]; exact g3, fun r a b => ?_⟩
      by_cases q : r = y
      · subst q; rw [cv]; exact e
      · rw [cy r (by omega)]; exact g4 r (by omega) b
  · rw [up_n _ _ _ a, up_n _ _ _ b]; exact h2 q a b
  · rw [up_s, ui_n _ _ a, up_n _ _ _ (by decide)]; exact h3 j a
  · rw [c1, up_s, ui_s]
    exact Or.inr ⟨by omega, by omega, by rw [cv]; exact e, fun r a b => by omega⟩
theorem l_X2_matchIslands (p : Int) (σ : St) (hp : 0 ≤ p ∧ p ≤ 100) (hW : gWF (cg σ 1)) (Q : St → Prop) (hQ : ∀ s, MI σ p (-1) s → Q s) : ∀ (d : Nat) (y : Int) (s : St), y = (d : Int) - 1 → y ≤ 5 → MI σ p y s → ∃ n, L_X2_matchIslands_11 Q p n y s := by
  obtain ⟨⟨t0, t1⟩, hT, hR⟩ := cgW hW
  intro d
  induction d with
  | zero =>
    intro y s hy h5 hI
    refine ⟨1, ⟨by omega, by omega⟩, fun _ => hQ s ?_, fun h => absurd (by omega) h⟩
    rw [show y = -1 by omega] at hI
    exact hI
  | succ d ih =>
    intro y s hy h5 hI
    have hy0 : 0 ≤ y := by omega
    obtain ⟨⟨z0, z1⟩, zs, ze, zf⟩ := hR y hy0 (by omega)
    obtain ⟨i1, i2, i3, i4, i5, i6⟩ := id hI
    have r5 : s 5 = σ 5 := i2 5 (by decide) (by decide)
    have r7 : s 7 = σ 7 := i2 7 (by decide) (by decide)
    have r1 : s 1 = σ 1 := i2 1 (by decide) (by decide)
    have r3 : s 3 = σ 3 := i2 3 (by decide) (by decide)
    have r54 : s 54 = σ 54 := i2 54 (by decide) (by decide)
    have r56 : s 56 = σ 56 := i2 56 (by decide) (by decide)
    by_cases hz : σ 5 y ≤ 0
    · obtain ⟨n, hn⟩ := ih (y - 1) _ (by omega) (by omega) ((MI_step hy0 h5 hp hI (-1) (by rw [if_pos hz]) (by decide)).1 rfl)
      refine ⟨n + 1, ⟨by omega, by omega⟩, fun h => absurd h (by omega), fun _ => ⟨⟨hy0, by omega⟩, fun r8 e8 => ?_⟩⟩
      have e8 : r8 = σ 5 y := by rw [e8]; show s 5 y = _; rw [r5]
      refine ⟨⟨by omega, by omega⟩, fun _ => ⟨⟨hy0, h5, by decide, by decide, hp.1, hp.2⟩, fun s13 e13 => ?_⟩, fun h => absurd (by omega) h⟩
      rw [e13]
      exact hn
    · obtain ⟨f1, f2⟩ := zf (by omega)
      have hb := ze 0 (by decide) (by omega)
      have ee : ans_X2_elementEnd (σ 7 (y * 8 + 0)) p s = ans_X2_elementEnd (σ 7 (y * 8 + 0)) p σ := eEnd_congr r1 r3 r54 r56 (Or.inl f2)
      have eb := eEnd_b i1 (x := σ 7 (y * 8 + 0)) (p := p) (by omega) hp.1 (by rw [r1]; exact t1)
      have et : tget s y 1 (ans_X2_elementEnd (σ 7 (y * 8 + 0)) p s) = tget σ y 1 (ans_X2_elementEnd (σ 7 (y * 8 + 0)) p σ) := by
        rw [ee]
        rw [ee] at eb
        unfold tget
        by_cases g : 0 ≤ ans_X2_elementEnd (σ 7 (y * 8 + 0)) p σ
        · rw [if_pos g, if_pos g]
          exact i4 y 1 _ hy0 (by omega) (by decide) (by decide) g eb.2 (Or.inl (by decide))
        · rw [if_neg g, if_neg g]
      have vb := tget_b i1 y 1 (ans_X2_elementEnd (σ 7 (y * 8 + 0)) p s)
      have st := MI_step hy0 h5 hp hI (tget s y 1 (ans_X2_elementEnd (σ 7 (y * 8 + 0)) p s)) (by rw [if_neg hz, et]) vb
      have key : ∃ n, ∀ r25 : Int, r25 = tget s y 1 (ans_X2_elementEnd (σ 7 (y * 8 + 0)) p s) → (r25 = -1 → L_X2_matchIslands_11 Q p n (y + (-1)) (up s 60 ((y * 9 + 0) * 101 + p) r25)) ∧ (r25 ≠ -1 → L_X2_matchIslands_11 Q p n (y + (-1)) (up (up s 60 ((y * 9 + 0) * 101 + p) r25) 58 p y)) := by
        by_cases g : tget s y 1 (ans_X2_elementEnd (σ 7 (y * 8 + 0)) p s) = -1
        · obtain ⟨n, hn⟩ := ih (y - 1) _ (by omega) (by omega) (st.1 g)
          exact ⟨n, fun r e => ⟨fun _ => by rw [e]; exact hn, fun z => absurd (e.trans g) z⟩⟩
        · obtain ⟨n, hn⟩ := ih (y - 1) _ (by omega) (by omega) (st.2 g)
          exact ⟨n, fun r e => ⟨fun z => absurd (e.symm.trans z) g, fun _ => by rw [e]; exact hn⟩⟩
      obtain ⟨n, hn⟩ := key
      refine ⟨n + 1, ⟨by omega, by omega⟩, fun h => absurd h (by omega), fun _ => ⟨⟨hy0, by omega⟩, fun r8 e8 => ?_⟩⟩
      have e8 : r8 = σ 5 y := by rw [e8]; show s 5 y = _; rw [r5]
      refine ⟨⟨by omega, by omega⟩, fun h => absurd h (by omega), fun _ => ⟨⟨hy0, by omega, by decide, by decide⟩, fun r17 e17 => ?_⟩⟩
      have e17 : r17 = σ 7 (y * 8 + 0) := by rw [e17]; show s 7 (y * 8 + 0) = _; rw [r7]
      refine ⟨⟨by omega, by omega, hp.1, hp.2, by rw [r1]; exact t0, by rw [r1]; exact t1, i1, fun a => ?_⟩, fun r21 e21 => ?_⟩
      · rw [r1] at a
        rw [r3]
        have := hT p hp.1 a
        exact ⟨by omega, by omega⟩
      · rw [e17] at e21
        refine ⟨⟨hy0, h5, by decide, by decide, by rw [e21]; exact eb.1, by rw [e21]; exact eb.2⟩, fun r25 e25 => ?_⟩
        have e25 : r25 = tget s y 1 (ans_X2_elementEnd (σ 7 (y * 8 + 0)) p s) := by rw [e25, e21]; rfl
        refine ⟨⟨hy0, h5, by decide, by decide, hp.1, hp.2⟩, fun s28 e28 => ?_⟩
        have e28 : s28 = up s 60 ((y * 9 + 0) * 101 + p) r25 := e28
        refine ⟨by rw [e25]; exact ⟨by omega, by omega⟩, fun a => ?_, fun a => ⟨⟨by omega, by omega⟩, fun s33 e33 => ?_⟩⟩
        · rw [e28]
          exact (hn r25 e25).1 a
        · have e33 : s33 = up s28 58 p y := by rw [e33]; exact if_pos ⟨hp.1, by omega⟩
          rw [e33, e28]
          exact (hn r25 e25).2 a
theorem v_X2_matchIslands (x1 : Int) (σ : St) (hp : pre_X2_matchIslands x1 σ) : V_X2_matchIslands x1 σ (post_X2_matchIslands x1 σ) := by
  obtain ⟨p0, p1, hM, hW⟩ := hp
  refine ⟨⟨by omega, by omega⟩, fun s2 e2 => ?_⟩
  have e2 : s2 = up σ 58 x1 (-1) := by rw [e2]; exact if_pos ⟨p0, by omega⟩
  have c2 : ct s2 = ct σ := ct_row (by rw [e2]; exact up_n _ _ _ (by decide))
  refine l_X2_matchIslands x1 σ ⟨p0, p1⟩ hW (post_X2_matchIslands x1 σ) (fun s h => ?_) 6 5 s2 (by decide) (by decide) ⟨?_, ?_, ?_, ?_, ?_, ?_⟩
  · obtain ⟨h1, h2, h3, h4, h5, h6⟩ := h
    exact ⟨h1, h2, h3, fun r i p a b c d e f g => h4 r i p a b c d e f (by omega), fun r a b => h5 r (by omega) b, isF_first h6⟩
  · rw [e2]; exact MB_58 hM (by decide)
  · intro q a b
    rw [e2, up_n _ _ _ a]
  · intro j a
    rw [e2, up_s, ui_n _ _ a]
  · intro r i q a b c d e f g
    rw [c2]
  · intro r a b
    exact absurd a (by omega)
  · rw [e2, up_s, ui_s]
    exact Or.inl ⟨rfl, fun r a b => by omega⟩
