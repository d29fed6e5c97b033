theorem st_ext {σ τ : St} (h : ∀ q, σ q = τ q) : σ = τ := funext h
theorem l_X7_save_51 (Q : St → Prop) (τ : St) (d : Int) (hd0 : 0 ≤ d) (hd : d ≤ 3) (hτ : τ 80 2 = d) (hQ : Q (up (ur τ 82 (fun j => if 161 * d ≤ j ∧ j < 161 * d + 161 then τ 81 (j - 161 * d) else τ 82 j)) 80 2 (d + 1))) : ∀ (m : Nat) (i : Int) (s : St), 0 ≤ i → i + m = 161 → s = ur τ 82 (fun j => if 161 * d ≤ j ∧ j < 161 * d + i then τ 81 (j - 161 * d) else τ 82 j) → ∃ n, L_X7_save_51 Q n i s := by
  intro m
  induction m with
  | zero =>
    intro i s h0 hi hs
    have e80 : s 80 2 = d := by rw [hs, ur_n _ _ (by decide)]; exact hτ
    refine ⟨1, ⟨by omega, by omega⟩, fun _ s5 e5 => ?_, fun h => absurd (by omega) h⟩
    rw [e5, e80, hs, show i = 161 by omega]
    exact hQ
  | succ m ih =>
    intro i s h0 hi hs
    have e80 : s 80 2 = d := by rw [hs, ur_n _ _ (by decide)]; exact hτ
    have e : up s 82 (161 * d + i) (s 81 i) = ur τ 82 (fun j => if 161 * d ≤ j ∧ j < 161 * d + (i + 1) then τ 81 (j - 161 * d) else τ 82 j) := by
      rw [hs, up_ur, ur_n (q := 81) _ _ (by decide)]
      refine ur_congr (fun j => ?_)
      unfold ui
      dsimp only
      by_cases hj : j = 161 * d + i
      · subst hj
        rw [if_pos rfl, if_pos (by omega), show 161 * d + i - 161 * d = i by omega]
      · rw [if_neg hj]
        split <;> split <;> first | rfl | (exfalso; omega)
    obtain ⟨n, hn⟩ := ih (i + 1) _ (by omega) (by omega) e
    refine ⟨n + 1, ⟨by omega, by omega⟩, fun h => absurd h (by omega), fun _ => ⟨⟨by omega, by omega⟩, ?_⟩⟩
    rw [e80]
    exact ⟨⟨by omega, by omega⟩, fun s9 e9 => by rw [e9]; exact hn⟩
theorem l_X7_save_10 (Q : St → Prop) (σ : St) (hd : σ 80 2 = 4) (hQ : Q (eff_X7_save σ)) : ∀ (m : Nat) (i : Int) (s : St), 0 ≤ i → i + m = 483 → s = ur σ 82 (fun j => if 0 ≤ j ∧ j < i then σ 82 (j + 161) else σ 82 j) → ∃ n, L_X7_save_10 Q n i s := by
  intro m
  induction m with
  | zero =>
    intro i s h0 hi hs
    refine ⟨1, ⟨by omega, by omega⟩, fun _ s5 e5 => ?_, fun h => absurd (by omega) h⟩
    have e80 : s 80 2 = 4 := by rw [hs, ur_n _ _ (by decide)]; exact hd
    have e3 : s5 80 2 = 3 := by rw [e5, up_s, ui_s, e80]; rfl
    have e82 : ∀ j, s5 82 j = if 0 ≤ j ∧ j < 483 then σ 82 (j + 161) else σ 82 j := fun j => by
      rw [e5, up_n _ _ _ (by decide), hs, ur_s, show i = 483 by omega]
    have e81 : s5 81 = σ 81 := by rw [e5, up_n _ _ _ (by decide), hs, ur_n _ _ (by decide)]
    refine l_X7_save_51 Q s5 3 (by omega) (by omega) e3 ?_ 161 0 s5 (by omega) (by omega) ?_
    · have e : up (ur s5 82 (fun j => if 161 * 3 ≤ j ∧ j < 161 * 3 + 161 then s5 81 (j - 161 * 3) else s5 82 j)) 80 2 (3 + 1) = eff_X7_save σ := by
        unfold eff_X7_save
        rw [if_pos hd, e81]
        refine st_ext (fun q => ?_)
        by_cases h80 : q = 80
        · subst h80
          rw [up_s, up_s, ur_n _ _ (by decide), ur_n _ _ (by decide), e5, up_s, hs, ur_n _ _ (by decide)]
          funext j
          unfold ui
          split <;> rfl
        · rw [up_n _ _ _ h80, up_n _ _ _ h80]
          by_cases h82 : q = 82
          · subst h82
            rw [ur_s, ur_s]
            funext j
            rw [e82]
            split
            · rfl
            · split <;> split <;> first | rfl | (exfalso; omega)
          · rw [ur_n _ _ h82, ur_n _ _ h82, e5, up_n _ _ _ h80, hs, ur_n _ _ h82]
      rw [e]
      exact hQ
    · refine (ur_id (fun j => ?_)).symm
      rw [if_neg (by omega)]
  | succ m ih =>
    intro i s h0 hi hs
    have e : up s 82 i (s 82 (i + 161)) = ur σ 82 (fun j => if 0 ≤ j ∧ j < i + 1 then σ 82 (j + 161) else σ 82 j) := by
      rw [hs, up_ur, ur_s]
      refine ur_congr (fun j => ?_)
      unfold ui
      dsimp only
      by_cases hj : j = i
      · subst hj
        rw [if_pos rfl, if_neg (by omega), if_pos (by omega)]
      · rw [if_neg hj]
        split <;> split <;> first | rfl | (exfalso; omega)
    obtain ⟨n, hn⟩ := ih (i + 1) _ (by omega) (by omega) e
    exact ⟨n + 1, ⟨by omega, by omega⟩, fun h => absurd h (by omega), fun _ => ⟨⟨by omega, by omega⟩, ⟨by omega, by omega⟩, fun s9 e9 => by rw [e9]; exact hn⟩⟩
theorem v_X7_save (σ : St) (hp : pre_X7_save σ) : V_X7_save σ (post_X7_save σ) := by
  obtain ⟨p0, p1⟩ := hp
  refine ⟨⟨by omega, by omega⟩, fun h => ?_, fun h => ?_⟩
  · refine l_X7_save_51 (post_X7_save σ) σ (σ 80 2) p0 (by omega) rfl ?_ 161 0 σ (by omega) (by omega) ?_
    · show _ = eff_X7_save σ
      unfold eff_X7_save
      rw [if_neg h]
      congr 1
      refine ur_congr (fun j => ?_)
      try dsimp only
      split
      · rfl
      · rw [if_neg (fun z => h z.1)]
    · refine (ur_id (fun j => ?_)).symm
      rw [if_neg (by omega)]
  · refine l_X7_save_10 (post_X7_save σ) σ h rfl 483 0 σ (by omega) (by omega) ?_
    refine (ur_id (fun j => ?_)).symm
    rw [if_neg (by omega)]
theorem l_X7_insert (x1 x2 : Int) (τ : St) (L : Int) (p0 : 0 ≤ x1) (p1 : x1 ≤ L) (p2 : L < 100) (hL : τ 81 0 = L) (Q : Int → St → Prop) (hQ : Q (L + 1) (ur τ 81 (fun j => if j = 0 then L + 1 else if j = 1 + x1 then x2 else if 1 + x1 < j ∧ j ≤ 1 + L then τ 81 (j - 1) else τ 81 j))) : ∀ (d : Nat) (i : Int) (s : St), i = x1 + d → i ≤ L → s = ur τ 81 (fun j => if 1 + i < j ∧ j ≤ 1 + L then τ 81 (j - 1) else τ 81 j) → ∃ n, L_X7_insert_57 Q x1 x2 n i s := by
  intro d
  induction d with
  | zero =>
    intro i s hi hl hs
    have hi : i = x1 := by omega
    refine ⟨1, ⟨by omega, by omega⟩, ⟨by omega, by omega⟩, fun _ => ⟨⟨by omega, by omega⟩, fun s5 e5 s7 e7 => ?_⟩, fun h => absurd (by omega) h⟩
    have h0 : s5 81 0 = L := by
      rw [e5, up_s, ui_n _ _ (by omega), hs, ur_s, if_neg (by omega), hL]
    have e : s7 = ur τ 81 (fun j => if j = 0 then L + 1 else if j = 1 + x1 then x2 else if 1 + x1 < j ∧ j ≤ 1 + L then τ 81 (j - 1) else τ 81 j) := by
      rw [e7, h0, e5, hs, up_ur, up_ur]
      refine ur_congr (fun j => ?_)
      unfold ui
      rw [hi]
    have h8 : s7 81 0 = L + 1 := by rw [e, ur_s, if_pos rfl]
    rw [h8, e]
    exact hQ
  | succ d ih =>
    intro i s hi hl hs
    have e : up s 81 (1 + i) (s 81 ((1 + i) - 1)) = ur τ 81 (fun j => if 1 + (i - 1) < j ∧ j ≤ 1 + L then τ 81 (j - 1) else τ 81 j) := by
      rw [hs, up_ur, ur_s]
      refine ur_congr (fun j => ?_)
      unfold ui
      dsimp only
      by_cases hj : j = 1 + i
      · subst hj
        rw [if_pos rfl, if_neg (by omega), if_pos (by omega)]
      · rw [if_neg hj]
        split <;> split <;> first | rfl | (exfalso; omega)
    obtain ⟨n, hn⟩ := ih (i - 1) _ (by omega) (by omega) e
    exact ⟨n + 1, ⟨by omega, by omega⟩, ⟨by omega, by omega⟩, fun h => absurd h (by omega), fun _ => ⟨⟨by omega, by omega⟩, ⟨by omega, by omega⟩, fun s9 e9 => by rw [e9]; exact hn⟩⟩
theorem v_X7_insert (x1 x2 : Int) (σ : St) (hp : pre_X7_insert x1 x2 σ) : V_X7_insert x1 x2 σ (post_X7_insert x1 x2 σ) := by
  simp only [pre_X7_insert] at hp
  have key : 0 ≤ x1 → x1 ≤ σ 81 0 → σ 81 0 < 100 → 32 ≤ x2 → x2 ≤ 126 → ∃ n_, L_X7_insert_57 (post_X7_insert x1 x2 σ) x1 x2 n_ (σ 81 0) (eff_X7_save σ) := by
    intro a b c d e
    refine l_X7_insert x1 x2 (eff_X7_save σ) (σ 81 0) a b c (by rw [sv7_81]) (post_X7_insert x1 x2 σ) ?_ (σ 81 0 - x1).toNat (σ 81 0) _ (by omega) (by omega) (ur_id (fun j => by rw [if_neg (by omega)])).symm
    simp only [post_X7_insert, ans_X7_insert, eff_X7_insert, sv7_81, sv7_83]
    repeat' split
    all_goals first | exact ⟨rfl, rfl⟩ | (exfalso; omega)
  unfold V_X7_insert
  simp only [pre_X7_in, ans_X7_in, pre_X7_fail, ans_X7_fail, pre_X7_isByte, ans_X7_isByte, pre_X7_save, forall_eq, b01, b01R, sv7_81]
  repeat' first | exact trivial | refine And.intro ?_ ?_ | intro _
  all_goals try (simp only [post_X7_insert, ans_X7_insert, eff_X7_insert])
  all_goals first
    | omega
    | exact key (by omega) (by omega) (by omega) (by omega) (by omega)
    | ((repeat' split) <;> first | rfl | omega | (exfalso; omega))
theorem l_X7_delete (x1 x2 : Int) (τ : St) (L : Int) (p0 : 0 ≤ x1) (p1 : 1 ≤ x2) (p2 : x1 + x2 ≤ L) (p3 : L ≤ 100) (hL : τ 81 0 = L) (Q : Int → St → Prop) (hQ : Q (L - x2) (ur τ 81 (fun j => if j = 0 then L - x2 else if 1 + x1 ≤ j ∧ j < 1 + L - x2 then τ 81 (j + x2) else τ 81 j))) : ∀ (d : Nat) (i : Int) (s : St), x1 ≤ i → i + d = L - x2 → s = ur τ 81 (fun j => if 1 + x1 ≤ j ∧ j < 1 + i then τ 81 (j + x2) else τ 81 j) → ∃ n, L_X7_delete_37 Q x2 n i s := by
  intro d
  induction d with
  | zero =>
    intro i s h0 hi hs
    have e0 : s 81 0 = L := by rw [hs, ur_s, if_neg (by omega), hL]
    refine ⟨1, ⟨by omega, by omega⟩, by rw [e0]; exact ⟨by omega, by omega⟩, fun _ s7 e7 => ?_, fun h => absurd (by rw [e0]; omega) h⟩
    have e : s7 = ur τ 81 (fun j => if j = 0 then L - x2 else if 1 + x1 ≤ j ∧ j < 1 + L - x2 then τ 81 (j + x2) else τ 81 j) := by
      rw [e7, e0, hs, up_ur]
      refine ur_congr (fun j => ?_)
      unfold ui
      rw [show (1 : Int) + i = 1 + L - x2 by omega]
    have h8 : s7 81 0 = L - x2 := by rw [e, ur_s, if_pos rfl]
    rw [h8, e]
    exact hQ
  | succ d ih =>
    intro i s h0 hi hs
    have e0 : s 81 0 = L := by rw [hs, ur_s, if_neg (by omega), hL]
    have e : up s 81 (1 + i) (s 81 ((1 + i) + x2)) = ur τ 81 (fun j => if 1 + x1 ≤ j ∧ j < 1 + (i + 1) then τ 81 (j + x2) else τ 81 j) := by
      rw [hs, up_ur, ur_s]
      refine ur_congr (fun j => ?_)
      unfold ui
      dsimp only
      by_cases hj : j = 1 + i
      · subst hj
        rw [if_pos rfl, if_neg (by omega), if_pos (by omega)]
      · rw [if_neg hj]
        split <;> split <;> first | rfl | (exfalso; omega)
    obtain ⟨n, hn⟩ := ih (i + 1) _ (by omega) (by omega) e
    exact ⟨n + 1, ⟨by omega, by omega⟩, by rw [e0]; exact ⟨by omega, by omega⟩, fun h => absurd h (by rw [e0]; omega), fun _ => ⟨⟨by omega, by omega⟩, ⟨by omega, by omega⟩, fun s9 e9 => by rw [e9]; exact hn⟩⟩
theorem v_X7_delete (x1 x2 : Int) (σ : St) (hp : pre_X7_delete x1 x2 σ) : V_X7_delete x1 x2 σ (post_X7_delete x1 x2 σ) := by
  simp only [pre_X7_delete] at hp
  have key : 0 ≤ x1 → x1 < σ 81 0 → 1 ≤ x2 → x1 + x2 ≤ σ 81 0 → ∃ n_, L_X7_delete_37 (post_X7_delete x1 x2 σ) x2 n_ x1 (eff_X7_save σ) := by
    intro a b c d
    refine l_X7_delete x1 x2 (eff_X7_save σ) (σ 81 0) a c d (by omega) (by rw [sv7_81]) (post_X7_delete x1 x2 σ) ?_ (σ 81 0 - x2 - x1).toNat x1 _ (by omega) (by omega) (ur_id (fun j => by rw [if_neg (by omega)])).symm
    simp only [post_X7_delete, ans_X7_delete, eff_X7_delete, sv7_81, sv7_83]
    repeat' split
    all_goals first | exact ⟨rfl, rfl⟩ | (exfalso; omega)
  unfold V_X7_delete
  simp only [pre_X7_in, ans_X7_in, pre_X7_fail, ans_X7_fail, pre_X7_isPosition, ans_X7_isPosition, pre_X7_save, forall_eq, b01, b01R, sv7_81]
  repeat' first | exact trivial | refine And.intro ?_ ?_ | intro _
  all_goals try (simp only [post_X7_delete, ans_X7_delete, eff_X7_delete])
  all_goals first
    | omega
    | exact key (by omega) (by omega) (by omega) (by omega)
    | ((repeat' split) <;> first | rfl | omega | (exfalso; omega))
theorem l_X7_define (x1 : Int) (τ : St) (L : Int) (p0 : 0 ≤ x1) (p1 : x1 < 6) (p2 : 0 ≤ L) (p3 : L ≤ 8) (hL : τ 80 4 = L) (Q : Int → St → Prop) (hQ : Q L (ur τ 81 (fun j => if j = 101 + x1 then L else if 107 + 8 * x1 ≤ j ∧ j < 107 + 8 * x1 + L then τ 83 (j - (107 + 8 * x1)) else τ 81 j))) : ∀ (d : Nat) (i : Int) (s : St), 0 ≤ i → i + d = L → s = ur τ 81 (fun j => if 107 + 8 * x1 ≤ j ∧ j < 107 + 8 * x1 + i then τ 83 (j - (107 + 8 * x1)) else τ 81 j) → ∃ n, L_X7_define_57 Q x1 n i s := by
  intro d
  induction d with
  | zero =>
    intro i s h0 hi hs
    have e0 : s 80 4 = L := by rw [hs, ur_n _ _ (by decide), hL]
    refine ⟨1, ⟨by omega, by omega⟩, by rw [e0]; exact ⟨by omega, by omega⟩, fun _ => ⟨⟨by omega, by omega⟩, fun s7 e7 => ?_⟩, fun h => absurd (by rw [e0]; omega) h⟩
    have e : s7 = ur τ 81 (fun j => if j = 101 + x1 then L else if 107 + 8 * x1 ≤ j ∧ j < 107 + 8 * x1 + L then τ 83 (j - (107 + 8 * x1)) else τ 81 j) := by
      rw [e7, e0, hs, up_ur]
      refine ur_congr (fun j => ?_)
      unfold ui
      rw [show i = L by omega]
    have h8 : s7 80 4 = L := by rw [e, ur_n _ _ (by decide), hL]
    rw [h8, e]
    exact hQ
  | succ d ih =>
    intro i s h0 hi hs
    have e0 : s 80 4 = L := by rw [hs, ur_n _ _ (by decide), hL]
    have e : up s 81 ((107 + (8 * x1)) + i) (s 83 i) = ur τ 81 (fun j => if 107 + 8 * x1 ≤ j ∧ j < 107 + 8 * x1 + (i + 1) then τ 83 (j - (107 + 8 * x1)) else τ 81 j) := by
      rw [hs, up_ur, ur_n (q := 83) _ _ (by decide)]
      refine ur_congr (fun j => ?_)
      unfold ui
      dsimp only
      by_cases hj : j = (107 + (8 * x1)) + i
      · subst hj
        rw [if_pos rfl, if_pos (by omega), show 107 + 8 * x1 + i - (107 + 8 * x1) = i by omega]
      · rw [if_neg hj]
        split <;> split <;> first | rfl | (exfalso; omega)
    obtain ⟨n, hn⟩ := ih (i + 1) _ (by omega) (by omega) e
    exact ⟨n + 1, ⟨by omega, by omega⟩, by rw [e0]; exact ⟨by omega, by omega⟩, fun h => absurd h (by rw [e0]; omega), fun _ => ⟨⟨by omega, by omega⟩, ⟨by omega, by omega⟩, fun s9 e9 => by rw [e9]; exact hn⟩⟩
theorem v_X7_define (x1 : Int) (σ : St) (hp : pre_X7_define x1 σ) : V_X7_define x1 σ (post_X7_define x1 σ) := by
  simp only [pre_X7_define] at hp
  have key : 0 ≤ x1 → x1 < 6 → ¬ σ 80 4 = 0 → ¬ σ 83 0 = 126 → ¬ (65 ≤ σ 83 0 ∧ σ 83 0 ≤ 70) → ∃ n_, L_X7_define_57 (post_X7_define x1 σ) x1 n_ 0 (eff_X7_save σ) := by
    intro a b c d e
    refine l_X7_define x1 (eff_X7_save σ) (σ 80 4) a b (by omega) (by omega) (by rw [sv7_804]) (post_X7_define x1 σ) ?_ (σ 80 4).toNat 0 _ (by omega) (by omega) (ur_id (fun j => by rw [if_neg (by omega)])).symm
    simp only [post_X7_define, ans_X7_define, eff_X7_define, sv7_81, sv7_83]
    repeat' split
    all_goals first | exact ⟨rfl, rfl⟩ | (exfalso; omega)
  unfold V_X7_define
  simp only [pre_X7_isRule, ans_X7_isRule, pre_X7_isReference, ans_X7_isReference, pre_X7_fail, ans_X7_fail, pre_X7_save, forall_eq, b01, b01R]
  repeat' first | exact trivial | refine And.intro ?_ ?_ | intro _
  all_goals try (simp only [post_X7_define, ans_X7_define, eff_X7_define])
  all_goals first
    | omega
    | exact key (by omega) (by omega) (by omega) (by omega) (by omega)
    | ((repeat' split) <;> first | rfl | omega | (exfalso; omega))
theorem l_X7_undo (Q : Int → St → Prop) (τ : St) (d : Int) (hd0 : 0 ≤ d) (hd : d ≤ 3) (hτ : τ 80 2 = d) (hQ : Q d (ur τ 81 (fun j => if 0 ≤ j ∧ j < 161 then τ 82 (161 * d + j) else τ 81 j))) : ∀ (m : Nat) (i : Int) (s : St), 0 ≤ i → i + m = 161 → s = ur τ 81 (fun j => if 0 ≤ j ∧ j < i then τ 82 (161 * d + j) else τ 81 j) → ∃ n, L_X7_undo_26 Q n i s := by
  intro m
  induction m with
  | zero =>
    intro i s h0 hi hs
    have e80 : s 80 2 = d := by rw [hs, ur_n _ _ (by decide)]; exact hτ
    refine ⟨1, ⟨by omega, by omega⟩, fun _ => ?_, fun h => absurd (by omega) h⟩
    rw [e80, hs, show i = 161 by omega]
    exact hQ
  | succ m ih =>
    intro i s h0 hi hs
    have e80 : s 80 2 = d := by rw [hs, ur_n _ _ (by decide)]; exact hτ
    have e : up s 81 i (s 82 (161 * d + i)) = ur τ 81 (fun j => if 0 ≤ j ∧ j < i + 1 then τ 82 (161 * d + j) else τ 81 j) := by
      rw [hs, up_ur, ur_n (q := 82) _ _ (by decide)]
      refine ur_congr (fun j => ?_)
      unfold ui
      dsimp only
      by_cases hj : j = i
      · subst hj
        rw [if_pos rfl, if_pos (by omega)]
      · rw [if_neg hj]
        split <;> split <;> first | rfl | (exfalso; omega)
    obtain ⟨n, hn⟩ := ih (i + 1) _ (by omega) (by omega) e
    refine ⟨n + 1, ⟨by omega, by omega⟩, fun h => absurd h (by omega), fun _ => ?_⟩
    rw [e80]
    exact ⟨⟨by omega, by omega⟩, ⟨by omega, by omega⟩, fun s9 e9 => by rw [e9]; exact hn⟩
theorem v_X7_undo (σ : St) (hp : pre_X7_undo σ) : V_X7_undo σ (post_X7_undo σ) := by
  obtain ⟨p0, p1⟩ := hp
  refine ⟨⟨by omega, by omega⟩, fun h s3 e3 => ?_, fun h => ⟨⟨by omega, by omega⟩, fun r er s9 e9 => ?_⟩⟩
  · refine l_X7_undo (post_X7_undo σ) s3 (σ 80 2 - 1) (by omega) (by omega) (by rw [e3, up_s, ui_s]) ?_ 161 0 s3 (by omega) (by omega) (ur_id (fun j => by rw [if_neg (by omega)])).symm
    simp only [post_X7_undo, ans_X7_undo, eff_X7_undo, if_neg h]
    refine ⟨trivial, ?_⟩
    rw [e3, up_n (q := 82) _ _ _ (by decide), up_n (q := 81) _ _ _ (by decide)]
  · simp only [post_X7_undo, ans_X7_undo, eff_X7_undo, if_pos h]
    exact ⟨er, e9⟩
