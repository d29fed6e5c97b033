theorem l_X4_mixInto (k nn : Nat) (hik : isRow k nn) (a c h0 : Int) (σ : St) (hp : pre_X4_mixInto k nn h0 a c σ) (Q : Int → St → Prop) (hQ : Q (mixr (fun j => σ (k + 1) (a + j)) h0 c.toNat) σ) : ∀ (n m : Nat) (h : Int), c.toNat - m < n → (m : Int) ≤ c → h = mixr (fun j => σ (k + 1) (a + j)) h0 m → L_X4_mixInto_6 k nn Q a c n h (m : Int) σ := by
  obtain ⟨p0, p1, p2, p3, p4, p5⟩ := hp
  intro n
  induction n with
  | zero => intro m h hn; exact absurd hn (Nat.not_lt_zero _)
  | succ n ih =>
    intro m h hn hm hh
    refine ⟨⟨by omega, by omega⟩, ⟨by omega, by omega⟩, fun d => ?_, fun d => ⟨⟨by omega, by omega⟩, fun r e => ?_⟩⟩
    · rw [hh, show m = c.toNat by omega]
      exact hQ
    · have e : r = σ (k + 1) (a + m) := by rw [e]; exact if_pos ⟨by omega, by omega⟩
      refine ⟨by rw [e]; exact p5 _ (by omega) (by omega), trivial, fun r12 e12 => ?_⟩
      have := ih (m + 1) r12 (by omega) (by omega) (by
        show r12 = 31 * mixr (fun j => σ (k + 1) (a + j)) h0 m + σ (k + 1) (a + m)
        rw [e12, ← hh, ← e]
        rfl)
      exact this
theorem v_X4_mixInto (k nn : Nat) (hik : isRow k nn) (x1 x3 x4 : Int) (σ : St) (hp : pre_X4_mixInto k nn x1 x3 x4 σ) : V_X4_mixInto k nn x1 x3 x4 σ (post_X4_mixInto k nn x1 x3 x4 σ) :=
  ⟨_, l_X4_mixInto k nn hik x3 x4 x1 σ hp _ (show post_X4_mixInto k nn x1 x3 x4 σ _ σ from ⟨rfl, rfl⟩) (x4.toNat + 1) 0 x1 (by omega) hp.2.2.1 rfl⟩
theorem l_X5_mixInto (σ : St) (hW : gWF (cg σ 1)) (h0 : Int) (Q : Int → St → Prop) (hQ : Q (mixR (σ 5) (fun r i => σ 7 (r * 8 + i)) (σ 9) h0 6) σ) : ∀ (n m : Nat) (h : Int), 6 - m < n → m ≤ 6 → h = mixR (σ 5) (fun r i => σ 7 (r * 8 + i)) (σ 9) h0 m → L_X5_mixInto_25 Q n h (m : Int) σ := by
  obtain ⟨⟨t0, t1⟩, hT, hR⟩ := cgW hW
  intro n
  induction n with
  | zero => intro m h hn; exact absurd hn (Nat.not_lt_zero _)
  | succ n ih =>
    intro m h hn hm hh
    refine ⟨⟨by omega, by omega⟩, fun d => ?_, fun d => ?_⟩
    · rw [hh, show m = 6 by omega]
      exact hQ
    · obtain ⟨⟨z0, z1⟩, zs, ze, zf⟩ := hR (m : Int) (by omega) (by omega)
      refine ⟨⟨by omega, by omega⟩, fun r15 e15 => ?_⟩
      have e15 : r15 = σ 5 m := e15
      refine ⟨by rw [e15]; exact ⟨by omega, by omega⟩, trivial, fun r20 e20 => ⟨⟨by omega, by omega, by omega, by omega, by omega, fun j a b => ?_⟩, fun r24 e24 => ⟨⟨by omega, by omega⟩, fun r28 e28 => ?_⟩⟩⟩
      · have := ze (j - m * 8) (by omega) (by omega)
        rw [show (m : Int) * 8 + (j - m * 8) = j by omega] at this
        exact ⟨by show -2147483648 ≤ σ 7 j; omega, by show σ 7 j ≤ 2147483647; omega⟩
      · have e28 : r28 = σ 9 m := e28
        refine ⟨by rw [e28]; exact ⟨by omega, by omega⟩, trivial, fun r33 e33 => ?_⟩
        have := ih (m + 1) r33 (by omega) (by omega) (by
          show r33 = 31 * mixr (fun i => σ 7 (m * 8 + i)) (31 * mixR (σ 5) (fun r i => σ 7 (r * 8 + i)) (σ 9) h0 m + σ 5 m) (σ 5 m).toNat + σ 9 m
          rw [e33, e24, e20, e28, e15, hh]
          rfl)
        exact this
theorem v_X5_mixInto (x1 : Int) (σ : St) (hp : pre_X5_mixInto x1 σ) : V_X5_mixInto x1 σ (post_X5_mixInto x1 σ) := by
  have hW : gWF (cg σ 1) := hp
  obtain ⟨⟨t0, t1⟩, hT, hR⟩ := cgW hW
  refine ⟨⟨by omega, by omega⟩, trivial, fun r5 e5 => ⟨⟨by omega, by omega, by omega, by omega, by omega, fun j a b => ?_⟩, fun r9 e9 => ?_⟩⟩
  · have := hT j a (by omega)
    exact ⟨by show -2147483648 ≤ σ 3 j; omega, by show σ 3 j ≤ 2147483647; omega⟩
  · have e9 : r9 = mixr (σ 3) (31 * x1 + σ 1 4) (σ 1 4).toNat := by
      rw [e9, e5]
      show mixr (fun j => σ 3 (0 + j)) _ _ = _
      rw [show (fun j => σ 3 (0 + j)) = σ 3 from funext fun j => by rw [Int.zero_add]]
      rfl
    refine ⟨7, l_X5_mixInto σ hW r9 _ ?_ 7 0 r9 (by decide) (by decide) rfl⟩
    rw [e9]
    exact ⟨rfl, rfl⟩
theorem l_X3_mixInto (σ : St) (h0 : Int) (hp : pre_X3_mixInto h0 σ) (Q : Int → St → Prop) (hQ : Q (31 * (31 * mixN σ (31 * h0 + σ 61 11) (σ 61 11).toNat + σ 61 13) + σ 61 15) σ) : ∀ (n m : Nat) (h : Int), (σ 61 11).toNat - m < n → (m : Int) ≤ σ 61 11 → h = mixN σ (31 * h0 + σ 61 11) m → L_X3_mixInto_13 Q n h (m : Int) σ := by
  obtain ⟨p0, p1, p2, p3, p4⟩ := hp
  intro n
  induction n with
  | zero => intro m h hn; exact absurd hn (Nat.not_lt_zero _)
  | succ n ih =>
    intro m h hn hm hh
    refine ⟨⟨by omega, by omega⟩, ⟨by omega, by omega⟩, fun d => ⟨p2, trivial, fun r13 e13 => ⟨p3, trivial, fun r18 e18 => ?_⟩⟩, fun d => ?_⟩
    · rw [e18, e13, hh, show m = (σ 61 11).toNat by omega]
      exact hQ
    · obtain ⟨q1, q2, q3, q4, q5, q6⟩ := p4 m (by omega) (by omega)
      have im : inR (m : Int) := ⟨by omega, by omega⟩
      have gt1 : ∀ k : Nat, ans_X4_get k 100 (m : Int) σ = σ (k + 1) m := fun k => if_pos ⟨by omega, by omega⟩
      refine ⟨im, fun r1 e1 => ?_⟩
      have e1 : r1 = σ 63 m := e1.trans (gt1 62)
      refine ⟨by rw [e1]; exact q1, trivial, fun t1 f1 => ⟨im, fun r2 e2 => ?_⟩⟩
      have e2 : r2 = σ 65 m := e2.trans (gt1 64)
      refine ⟨by rw [e2]; exact q2, trivial, fun t2 f2 => ⟨im, fun r3 e3 => ?_⟩⟩
      have e3 : r3 = σ 67 m := e3.trans (gt1 66)
      refine ⟨by rw [e3]; exact q3, trivial, fun t3 f3 => ⟨im, fun r4 e4 => ?_⟩⟩
      have e4 : r4 = σ 69 m := e4.trans (gt1 68)
      refine ⟨by rw [e4]; exact q4, trivial, fun t4 f4 => ⟨im, fun r5 e5 => ?_⟩⟩
      have e5 : r5 = σ 73 m := e5.trans (gt1 72)
      refine ⟨by rw [e5]; exact q5, trivial, fun t5 f5 => ⟨im, fun r6 e6 => ?_⟩⟩
      have e6 : r6 = σ 75 m := e6.trans (gt1 74)
      refine ⟨by rw [e6]; exact q6, trivial, fun t6 f6 => ?_⟩
      have := ih (m + 1) t6 (by omega) (by omega) (by
        show t6 = 31 * (31 * (31 * (31 * (31 * (31 * mixN σ (31 * h0 + σ 61 11) m + σ 63 m) + σ 65 m) + σ 67 m) + σ 69 m) + σ 73 m) + σ 75 m
        rw [f6, f5, f4, f3, f2, f1, e6, e5, e4, e3, e2, e1, hh]
        rfl)
      exact this
theorem v_X3_mixInto (x1 : Int) (σ : St) (hp : pre_X3_mixInto x1 σ) : V_X3_mixInto x1 σ (post_X3_mixInto x1 σ) := by
  obtain ⟨p0, p1, p2, p3, p4⟩ := id hp
  refine ⟨⟨by omega, by omega⟩, trivial, fun r5 e5 => ⟨(σ 61 11).toNat + 1, ?_⟩⟩
  have := l_X3_mixInto σ x1 hp _ (show post_X3_mixInto x1 σ _ σ from ⟨rfl, rfl⟩) ((σ 61 11).toNat + 1) 0 r5 (by omega) p0 (by rw [e5]; rfl)
  exact this
theorem v_X6_digest (σ : St) (hp : pre_X6_digest σ) : V_X6_digest σ (post_X6_digest σ) := by
  obtain ⟨hR, h6, h10, h51⟩ := hp
  refine ⟨hR, fun s h => ?_⟩
  obtain ⟨k1, k2, k3, k4⟩ := id h
  have r51 : s 51 = σ 51 := k1 51 (by decide) (by decide) (by decide) (by decide) (by decide) (by decide)
  have r10 : s 10 = σ 10 := k1 10 (by decide) (by decide) (by decide) (by decide) (by decide) (by decide)
  have r1 : s 1 = σ 1 := k1 1 (by decide) (by decide) (by decide) (by decide) (by decide) (by decide)
  have r3 : s 3 = σ 3 := k1 3 (by decide) (by decide) (by decide) (by decide) (by decide) (by decide)
  have r5' : s 5 = σ 5 := k1 5 (by decide) (by decide) (by decide) (by decide) (by decide) (by decide)
  have r7' : s 7 = σ 7 := k1 7 (by decide) (by decide) (by decide) (by decide) (by decide) (by decide)
  have r9' : s 9 = σ 9 := k1 9 (by decide) (by decide) (by decide) (by decide) (by decide) (by decide)
  have r6 : s 0 6 = σ 0 6 := k2 6 (by decide)
  have rg := k4.rng
  refine ⟨⟨by decide, by decide, by decide, by decide, by decide, fun j a b => by show inR (s 51 j); rw [r51]; exact h51 j a (by omega)⟩, fun r7 e7 => ⟨by rw [r6]; exact h6, trivial, fun r12 e12 => ⟨trivial, fun r16 e16 => ?_⟩⟩⟩
  have e16 : r16 = σ 10 2 := by rw [e16]; show s 10 2 = _; rw [r10]
  have e7 : r7 = mixr (σ 51) 17305 3 := by
    rw [e7]
    show mixr (fun j => s 51 (0 + j)) 17305 3 = _
    rw [show (fun j => s 51 (0 + j)) = σ 51 from funext fun j => by rw [Int.zero_add, r51]]
  refine ⟨by rw [e16]; exact h10, trivial, fun r21 e21 => ⟨k4.1.2.1, fun r25 e25 => ⟨⟨by omega, by omega, ⟨by omega, by omega⟩, ⟨by omega, by omega⟩, fun j a b => ?_⟩, fun r29 e29 => ⟨h, ?_⟩⟩⟩⟩
  · have := rg.2.2.2.2 j a b
    exact ⟨⟨by omega, by omega⟩, ⟨by omega, by omega⟩, ⟨by omega, by omega⟩, ⟨by omega, by omega⟩, ⟨by omega, by omega⟩, ⟨by omega, by omega⟩⟩
  · rw [e29]
    show 31 * (31 * mixN s (31 * r25 + s 61 11) (s 61 11).toNat + s 61 13) + s 61 15 = _
    rw [e25]
    show 31 * (31 * mixN s (31 * mixR (s 5) (fun r i => s 7 (r * 8 + i)) (s 9) (mixr (s 3) (31 * r21 + s 1 4) (s 1 4).toNat) 6 + s 61 11) (s 61 11).toNat + s 61 13) + s 61 15 = _
    rw [r5', r7', r9', r3, r1, e21, e12, e16, e7, r6]
    rfl
