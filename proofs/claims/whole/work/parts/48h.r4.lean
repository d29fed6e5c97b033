theorem xr_new (g : Gr) (T : Tb) (r : Int) (x : Int × Int) (a : Int → Int) (N : Int) (val : Int × Int → Int) : ∀ (K : Nat) (f : Int), N ≤ f → f < N + csum g T r x K → ∃ j, j < K ∧ xr g T r x a N val K f = val (tr g T r x j) := by
  intro K
  induction K with
  | zero =>
    intro f h1 h2
    have h2 : f < N + 0 := h2
    omega
  | succ K ih =>
    intro f h1 h2
    have ec : csum g T r x (K + 1) = csum g T r x K + if emc g T r (tr g T r x K) = -1 then 0 else 1 := rfl
    have ex : xr g T r x a N val (K + 1) = if emc g T r (tr g T r x K) = -1 then xr g T r x a N val K else ui (xr g T r x a N val K) (N + csum g T r x K) (val (tr g T r x K)) := rfl
    rw [ec] at h2
    rw [ex]
    by_cases c : emc g T r (tr g T r x K) = -1
    · rw [if_pos c] at h2 ⊢
      obtain ⟨j, j1, j2⟩ := ih f h1 (by omega)
      exact ⟨j, by omega, j2⟩
    · rw [if_neg c] at h2 ⊢
      by_cases z : f = N + csum g T r x K
      · subst z
        rw [ui_s]
        exact ⟨K, by omega, rfl⟩
      · rw [ui_n _ _ z]
        obtain ⟨j, j1, j2⟩ := ih f h1 (by omega)
        exact ⟨j, by omega, j2⟩
/-- the found nodes below f0 have been followed -/
def PJ (σ : St) (f0 : Int) (s : St) : Prop :=
  (∀ q, q ≠ 80 → q ≠ 85 → q ≠ 86 → q ≠ 87 → q ≠ 88 → q ≠ 89 → q ≠ 90 → s q = σ q) ∧ (∀ j, j ≠ 12 → j ≠ 13 → j ≠ 14 → j ≠ 15 → s 80 j = σ 80 j) ∧ MC s ∧
  (∃ N, gl (mg (σ 81) 0) ≤ tp (mg (σ 81) 0) (ct σ) N ∧ s 80 13 = (tcn (mg (σ 81) 0) (ct σ) N).1 ∧ s 80 14 = (tcn (mg (σ 81) 0) (ct σ) N).2.1 ∧ s 80 15 = (tcn (mg (σ 81) 0) (ct σ) N).2.2.2) ∧
  (0 ≤ s 80 12 ∧ 0 ≤ f0 ∧ f0 ≤ s 80 12) ∧ FB (mg (σ 81) 0) (ct σ) (s 86) (s 87) (s 88) (s 80 12) ∧
  (∀ k q, To (mg (σ 81) 0) (ct σ) k q → ∃ f, (0 ≤ f ∧ f < s 80 12) ∧ s 87 f = q ∧ s 86 f = k ∧ s 88 f = -1) ∧
  (∀ f, 0 ≤ f → f < f0 → ∀ k q, Ch (mg (σ 81) 0) (ct σ) (s 86 f) (s 87 f) k q → ∃ i, (0 ≤ i ∧ i < s 80 12) ∧ s 87 i = q ∧ s 86 i = k ∧ s 88 i = f) ∧
  (∀ f, 0 ≤ f → f < f0 → (∃ N, gs (mg (σ 81) 0) (s 86 f) ≤ (tr (mg (σ 81) 0) (ct σ) (s 86 f) (0, s 87 f) N).1 ∧ s 89 f = wsum (mg (σ 81) 0) (ct σ) (s 86 f) (0, s 87 f) N) ∧ isN (mg (σ 81) 0) (ct σ) (s 86 f) (s 87 f) (s 90 f)) ∧
  (∀ f, f0 ≤ f → f < s 80 12 → s 89 f = 0 ∧ s 90 f = -1) ∧ (∀ f, 0 ≤ f → f < s 80 12 → s 88 f < f0)
theorem emc_fix {g : Gr} {T : Tb} {r : Int} {x : Int × Int} {K n : Nat} (hK : gs g r ≤ (tr g T r x K).1) (hn : emc g T r (tr g T r x n) ≠ -1) : n < K := by
  rcases Nat.lt_or_ge n K with h | h
  · exact h
  · exfalso
    obtain ⟨d, rfl⟩ := Nat.exists_eq_add_of_le h
    apply hn
    rw [tr_add, nx_fix hK]
    unfold emc
    rw [if_pos hK]
theorem PJ_follow {σ s s' : St} {f0 : Int} (hW : gWF (mg (σ 81) 0)) (hG : Good (mg (σ 81) 0) (ct σ)) (h : PJ σ f0 s) (hl : f0 < s 80 12) (hp : post_X7_follow f0 s s') : PJ σ (f0 + 1) s' := by
  obtain ⟨h1, h2, h3, h4, h5, h6, h7, h8, h9, h10, h11⟩ := h
  have k81 : s 81 = σ 81 := h1 81 (by decide) (by decide) (by decide) (by decide) (by decide) (by decide) (by decide)
  have k60 : s 60 = σ 60 := h1 60 (by decide) (by decide) (by decide) (by decide) (by decide) (by decide) (by decide)
  have cts : ct s = ct σ := ct_row k60
  obtain ⟨K, v, hC, hh, hN, g90⟩ := hp
  rw [k81, cts] at hC hh hN g90
  obtain ⟨b81, b85, b60, blow, b12⟩ := MW_keep hC
  obtain ⟨c1, c2, c3, c4, c5, c6⟩ := id hC
  have hn : ∀ f1, 0 ≤ f1 → f1 < s 80 12 → s 88 f1 ≠ f0 := fun f1 a b z => by
    have := h11 f1 a b
    omega
  have wk := FB_walk hW hG h5.1 h6 ⟨h5.2.1, hl⟩ hn K
  have cm := (csum_mono (mg (σ 81) 0) (ct σ) (s 86 f0) (0, s 87 f0) K).1
  rw [← c3, ← c4, ← c5, ← b12] at wk
  obtain ⟨w1, w2, w3, w4⟩ := wk
  refine ⟨fun q a b c d e f g => by rw [c1 q a c d e f g]; exact h1 q a b c d e f g, fun j a b c d => by rw [c2, ui_n _ _ a]; exact h2 j a b c d, MC_rows h3 b81 b85 b60, ?_, by omega, w1, ?_, ?_, ?_, ?_, ?_⟩
  · rw [c2, ui_n _ _ (by decide), ui_n _ _ (by decide), ui_n _ _ (by decide)]
    exact h4
  · intro k q t
    obtain ⟨f, f1, f2, f3, f4⟩ := h7 k q t
    have := blow f f1.2
    exact ⟨f, by omega, by rw [this.2.1]; exact f2, by rw [this.1]; exact f3, by rw [this.2.2]; exact f4⟩
  · intro f a b k q t
    have lo := blow f (by omega)
    rw [lo.1, lo.2.1] at t
    by_cases z : f = f0
    · subst z
      obtain ⟨t1, n, t2, t3⟩ := t
      have nK := emc_fix hh (by rw [t2]; exact t1)
      obtain ⟨f', f1, f2, f3, f4⟩ := w3 n nK (by rw [t2]; exact t1)
      exact ⟨f', by omega, by rw [f2]; exact t3, by rw [f3]; exact t2, f4⟩
    · obtain ⟨i, i1, i2, i3, i4⟩ := h8 f a (by omega) k q t
      have := blow i i1.2
      exact ⟨i, by omega, by rw [this.2.1]; exact i2, by rw [this.1]; exact i3, by rw [this.2.2]; exact i4⟩
  · intro f a b
    have lo := blow f (by omega)
    rw [lo.1, lo.2.1]
    by_cases z : f = f0
    · subst z
      refine ⟨⟨K, hh, ?_⟩, ?_⟩
      · rw [c6, ui_s, (h10 f (by omega) hl).1, Int.zero_add]
      · rw [g90, ui_s]
        exact hN
    · obtain ⟨⟨N, n1, n2⟩, n3⟩ := h9 f a (by omega)
      refine ⟨⟨N, n1, ?_⟩, ?_⟩
      · rw [c6, ui_n _ _ z, xr_low _ _ _ _ _ _ _ (by omega)]
        exact n2
      · rw [g90, ui_n _ _ z, xr_low _ _ _ _ _ _ _ (by omega)]
        exact n3
  · intro f a b
    have z : f ≠ f0 := by omega
    rw [c6, g90, ui_n _ _ z, ui_n _ _ z]
    by_cases y : f < s 80 12
    · rw [xr_low _ _ _ _ _ _ _ y, xr_low _ _ _ _ _ _ _ y]
      exact h10 f (by omega) y
    · obtain ⟨j, -, j2⟩ := xr_new (mg (σ 81) 0) (ct σ) (s 86 f0) (0, s 87 f0) (s 89) (s 80 12) (fun _ => 0) K f (by omega) (by omega)
      obtain ⟨i, -, i2⟩ := xr_new (mg (σ 81) 0) (ct σ) (s 86 f0) (0, s 87 f0) (s 90) (s 80 12) (fun _ => -1) K f (by omega) (by omega)
      exact ⟨j2, i2⟩
  · intro f a b
    rcases w4 f a b with y | y
    · have := h11 f a y
      have lo := blow f y
      rw [lo.2.2]
      omega
    · rw [y]
      omega
theorem l_X7_parse2 (σ : St) (hW : gWF (mg (σ 81) 0)) (hG : Good (mg (σ 81) 0) (ct σ)) (hP : PO (mg (σ 81) 0) (ct σ) σ) (Q : St → Prop) (hQ : ∀ f0 s, PJ σ f0 s → f0 = s 80 12 → Q s) : ∀ (n : Nat) (y3 : Int) (s : St), (100 - y3).toNat < n → PJ σ y3 s → L_X7_parse_117 Q n y3 s := by
  obtain ⟨⟨t0, t1⟩, hT, hR⟩ := mgW hW
  have hPL := hP.1.2
  rw [mg_L] at hPL
  intro n
  induction n with
  | zero => intro y3 s hn; exact absurd hn (Nat.not_lt_zero _)
  | succ n ih =>
    intro y3 s hn hPJ
    obtain ⟨h1, h2, h3, h4, h5, h6, h7, h8, h9, h10, h11⟩ := id hPJ
    have k81 : s 81 = σ 81 := h1 81 (by decide) (by decide) (by decide) (by decide) (by decide) (by decide) (by decide)
    have k60 : s 60 = σ 60 := h1 60 (by decide) (by decide) (by decide) (by decide) (by decide) (by decide) (by decide)
    have cts : ct s = ct σ := ct_row k60
    have fl := FB_le hP h6
    refine ⟨⟨by omega, by omega⟩, ⟨by omega, by omega⟩, fun c => hQ y3 s hPJ (by omega), fun c => ?_⟩
    obtain ⟨u1, u2, u3, u4⟩ := h6.1 y3 (by omega) (by omega)
    rw [mg_L] at u2
    refine ⟨⟨by omega, by omega, by omega, u1.1, u1.2, u2.1, by rw [k81]; omega, by rw [cts]; exact u3, (h10 y3 (by omega) (by omega)).2, h3, fun K => ?_⟩, fun s15 hpost => ih _ _ (by omega) (PJ_follow hW hG hPJ (by omega) hpost)⟩
    rw [k81, cts]
    have wk := (FB_walk hW hG h5.1 h6 (f := y3) ⟨by omega, by omega⟩ (fun f1 a b z => by have := h11 f1 a b; omega) K).1
    have := FB_le hP wk
    omega
theorem tp_stop {g : Gr} {T : Tb} {N : Nat} (h : gl g ≤ tp g T N) : ∀ d, tp g T (N + d) = tp g T N ∧ tcn g T (N + d) = tcn g T N := by
  intro d
  induction d with
  | zero => exact ⟨rfl, rfl⟩
  | succ d ih =>
    have c : gl g ≤ tp g T (N + d) := by rw [ih.1]; exact h
    have e1 : tp g T (N + (d + 1)) = tp g T (N + d) := if_pos c
    have e2 : tcn g T (N + (d + 1)) = tcn g T (N + d) := if_pos c
    exact ⟨e1.trans ih.1, e2.trans ih.2⟩
theorem tcn_uniq {g : Gr} {T : Tb} {N M : Nat} (h : gl g ≤ tp g T N) (h' : gl g ≤ tp g T M) : tcn g T N = tcn g T M := by
  rcases Nat.le_total N M with c | c
  · obtain ⟨d, rfl⟩ := Nat.exists_eq_add_of_le c
    exact (tp_stop h d).2.symm
  · obtain ⟨d, rfl⟩ := Nat.exists_eq_add_of_le c
    exact (tp_stop h' d).2
theorem v_X7_parse (σ : St) (hp : pre_X7_parse σ) : V_X7_parse σ (post_X7_parse σ) := by
  obtain ⟨hW, hM, hF, hE⟩ := id hp
  have hG : Good (mg (σ 81) 0) (ct σ) := by rw [← hE]; exact hF.1.2.2.1
  have hP : PO (mg (σ 81) 0) (ct σ) σ := by rw [← hE]; exact hF.2
  refine ⟨⟨hW, hM⟩, fun s2 hpost s4 e4 s5 e5 s6 e6 => ⟨(σ 81 0 - 0).toNat + 1, ?_⟩⟩
  obtain ⟨m8, rows, good⟩ := hpost
  have j6 : ∀ j, j ≠ 12 → j ≠ 14 → j ≠ 15 → s6 80 j = σ 80 j := fun j a b c => by rw [e6, up_s, ui_n _ _ c, e5, up_s, ui_n _ _ b, e4, up_s, ui_n _ _ a, rows 80 (by decide)]
  have r6 : ∀ q, q ≠ 80 → s6 q = s2 q := fun q a => by rw [e6, up_n _ _ _ a, e5, up_n _ _ _ a, e4, up_n _ _ _ a]
  have r62 : ∀ q, q ≠ 80 → q ≠ 85 → s6 q = σ q := fun q a b => by rw [r6 q a, rows q b]
  have z12 : s6 80 12 = 0 := by rw [e6, up_s, ui_n _ _ (by decide), e5, up_s, ui_n _ _ (by decide), e4, up_s, ui_s]
  have z14 : s6 80 14 = 0 := by rw [e6, up_s, ui_n _ _ (by decide), e5, up_s, ui_s]
  have z15 : s6 80 15 = 0 := by rw [e6, up_s, ui_s]
  have cts : ct s6 = ct σ := ct_row (r62 60 (by decide) (by decide))
  have mts : mt s6 = mt s2 := by funext r i p; unfold mt; rw [r6 85 (by decide)]
  have k81 : s6 81 = σ 81 := r62 81 (by decide) (by decide)
  have hMC : MC s6 := by
    refine ⟨by rw [k81]; exact hW, by unfold M8; rw [r6 85 (by decide)]; exact m8, by rw [k81, cts]; exact hG, ?_⟩
    rw [k81, mts, cts]
    intro p a b r c d i e f
    exact good_uniq hW hG good _ p (Nat.le_refl _) a (by rw [mg_L]; exact b) r c d i e f
  refine l_X7_parse1 σ hW hG (post_X7_parse σ) (fun N y1 y2 s hPI hl s10 e10 => ?_) _ _ _ _ (by omega) ⟨0, fun q a b c d e f g => r62 q a b, fun j a b c d => j6 j a c d, hMC, rfl, z12, z14, rfl, z15, ?_, fun f a b => by rw [z12] at b; omega, fun n hn => absurd hn (Nat.not_lt_zero _)⟩
  · obtain ⟨h1, h2, h3, h4, h5, h6, h7, h8, h9, h10, h11⟩ := id hPI
    have tb := tcn_b hW hG N
    have jj : ∀ j, j ≠ 13 → s10 80 j = s 80 j := fun j a => by rw [e10, up_s, ui_n _ _ a]
    have rr : ∀ q, q ≠ 80 → s10 q = s q := fun q a => by rw [e10, up_n _ _ _ a]
    refine ⟨((100 : Int) - 0).toNat + 1, l_X7_parse2 σ hW hG hP (post_X7_parse σ) (fun f0 s' hPJ hf => ?_) _ 0 s10 (by omega) ⟨fun q a b c d e f g => by rw [rr q a]; exact h1 q a b c d e f g, fun j a b c d => by rw [jj j b]; exact h2 j a b c d, MC_rows h3 (rr 81 (by decide)) (rr 85 (by decide)) (rr 60 (by decide)), ⟨N, by rw [h4]; exact hl, by rw [e10, up_s, ui_s]; exact h5, by rw [jj 14 (by decide)]; exact h6, by rw [jj 15 (by decide)]; exact h8⟩, ⟨by rw [jj 12 (by decide)]; omega, by decide, by rw [jj 12 (by decide)]; omega⟩, by rw [jj 12 (by decide), rr 86 (by decide), rr 87 (by decide), rr 88 (by decide)]; exact h9, ?_, fun f a b => by omega, fun f a b => by omega, ?_, ?_⟩⟩
    · subst hf
      obtain ⟨g1, g2, g3, g4, g5, g6, g7, g8, g9, g10, g11⟩ := hPJ
      have k81' : s' 81 = σ 81 := g1 81 (by decide) (by decide) (by decide) (by decide) (by decide) (by decide) (by decide)
      have cts' : ct s' = ct σ := ct_row (g1 60 (by decide) (by decide) (by decide) (by decide) (by decide) (by decide) (by decide))
      have hF' : Fresh s' := hF.keep (fun q a b c d e => Or.inl (g1 q (by omega) (by omega) (by omega) (by omega) (by omega) (by omega) (by omega)))
      have cge : cg s' 1 = cg σ 1 := cg_congr (fun q a b => g1 q (by omega) (by omega) (by omega) (by omega) (by omega) (by omega) (by omega))
      refine ⟨g1, g2, ⟨by rw [k81']; exact hW, g3.2.1, hF', by rw [cge, k81']; exact hE⟩, g3, ?_⟩
      unfold FP
      rw [k81', cts']
      exact ⟨g5.1, g6, g7, g8, g9, g4⟩
    · intro k q t
      obtain ⟨t1, n, t2, t3, t4⟩ := t
      have nN : n < N := by
        rcases Nat.lt_or_ge n N with c | c
        · exact c
        · exfalso
          obtain ⟨d, rfl⟩ := Nat.exists_eq_add_of_le c
          have := (tp_stop (show gl (mg (σ 81) 0) ≤ tp (mg (σ 81) 0) (ct σ) N by rw [h4]; exact hl) d).1
          omega
      obtain ⟨f, f1, f2, f3⟩ := h11 n nN (by rw [t2]; exact t3) (by rw [t2, t4]; exact t1)
      rw [jj 12 (by decide), rr 86 (by decide), rr 87 (by decide), rr 88 (by decide)]
      exact ⟨f, f1, by rw [f2, t2], by rw [f3, t2, t4], (h10 f f1.1 f1.2).1⟩
    · rw [jj 12 (by decide), rr 89 (by decide), rr 90 (by decide)]
      exact fun f a b => (h10 f a b).2.2
    · rw [jj 12 (by decide), rr 88 (by decide)]
      intro f a b
      rw [(h10 f a b).1]
      decide
  · refine ⟨fun f a b => ?_, fun f1 f2 a b c => ?_⟩
    · rw [z12] at b
      omega
    · rw [z12] at c
      omega
