theorem up_ur (σ : St) (k : Nat) (f : Int → Int) (i v : Int) : up (ur σ k f) k i v = ur σ k (ui f i v) := by
  unfold up
  rw [ur_s]
  funext q
  unfold ur
  split <;> rfl
theorem ur_congr {σ : St} {k : Nat} {f g : Int → Int} (h : ∀ j, f j = g j) : ur σ k f = ur σ k g := by rw [show f = g from funext h]
theorem ur_ur (σ : St) (k : Nat) (f g : Int → Int) : ur (ur σ k f) k g = ur σ k g := by
  funext q
  unfold ur
  split <;> rfl
theorem ur_self (σ : St) (k : Nat) : ur σ k (σ k) = σ := by
  funext q
  unfold ur
  split
  · next h => rw [h]
  · rfl
theorem ur_comm (σ : St) {k l : Nat} (f g : Int → Int) (h : k ≠ l) : ur (ur σ k f) l g = ur (ur σ l g) k f := by
  funext q
  unfold ur
  by_cases h1 : q = l
  · subst h1
    rw [if_pos rfl, if_neg (Ne.symm h), if_pos rfl]
  · rw [if_neg h1, if_neg h1]
theorem ur_id {σ : St} {k : Nat} {f : Int → Int} (h : ∀ j, f j = σ k j) : ur σ k f = σ := by
  rw [show f = σ k from funext h, ur_self]
theorem l_X4_copyFrom (k nn k2 nn2 : Nat) (hik : isRow k nn) (hik2 : isRow k2 nn2) (hk : k ≠ k2) (Q : St → Prop) (σ : St) (c : Int) (hc : c = min (nn : Int) (nn2 : Int)) (hQ : Q (eff_X4_copyFrom k nn k2 nn2 σ)) : ∀ (d : Nat) (i : Int) (s : St), 0 ≤ i → i + d = c → s = ur σ (k + 1) (fun j => if 0 ≤ j ∧ j < i then σ (k2 + 1) j else σ (k + 1) j) → ∃ n, L_X4_copyFrom_16 k nn k2 nn2 Q c n i s := by
  have h1 := isRow_lt hik
  have h2 := isRow_lt hik2
  intro d
  induction d with
  | zero =>
    intro i s h0 hi hs
    refine ⟨1, ⟨by omega, by omega⟩, ⟨by omega, by omega⟩, fun _ => ?_, fun h => absurd (by omega) h⟩
    have e : s = eff_X4_copyFrom k nn k2 nn2 σ := by
      rw [hs]
      refine ur_congr (fun j => ?_)
      split <;> split <;> first | rfl | (exfalso; omega)
    rw [e]
    exact hQ
  | succ d ih =>
    intro i s h0 hi hs
    have e : up s (k + 1) i (s (k2 + 1) i) = ur σ (k + 1) (fun j => if 0 ≤ j ∧ j < i + 1 then σ (k2 + 1) j else σ (k + 1) j) := by
      rw [hs, up_ur, ur_n _ _ (show k2 + 1 ≠ k + 1 by omega)]
      refine ur_congr (fun j => ?_)
      unfold ui
      dsimp only
      by_cases hj : j = i
      · subst hj
        rw [if_pos rfl, if_pos (by omega)]
      · rw [if_neg hj]
        split <;> split <;> first | rfl | (exfalso; omega)
    obtain ⟨n, hn⟩ := ih (i + 1) _ (by omega) (by omega) e
    exact ⟨n + 1, ⟨by omega, by omega⟩, ⟨by omega, by omega⟩, fun h => absurd h (by omega), fun _ => ⟨⟨h0, by omega⟩, ⟨h0, by omega⟩, fun s9 e9 => by rw [e9]; exact hn⟩⟩
theorem v_X4_copyFrom (k nn : Nat) (k2 nn2 : Nat) (hik : isRow k nn) (hik2 : isRow k2 nn2) (σ : St) (hp : pre_X4_copyFrom k nn k2 nn2 σ) : V_X4_copyFrom k nn k2 nn2 σ (post_X4_copyFrom k nn k2 nn2 σ) := by
  have h1 := isRow_lt hik
  have h2 := isRow_lt hik2
  refine ⟨⟨by omega, by omega⟩, ⟨by omega, by omega⟩, fun c hc => ?_⟩
  refine l_X4_copyFrom k nn k2 nn2 hik hik2 hp (post_X4_copyFrom k nn k2 nn2 σ) σ c hc rfl c.toNat 0 σ (by omega) (by omega) ?_
  refine (ur_id (fun j => ?_)).symm
  rw [if_neg (by omega)]
theorem l_X4_fill (k nn : Nat) (hik : isRow k nn) (v : Int) (Q : St → Prop) (σ : St) (hQ : Q (ur σ (k + 1) (fun j => if 0 ≤ j ∧ j < (nn : Int) then v else σ (k + 1) j))) : ∀ (d : Nat) (i : Int) (s : St), 0 ≤ i → i + d = nn → s = ur σ (k + 1) (fun j => if 0 ≤ j ∧ j < i then v else σ (k + 1) j) → ∃ n, L_X4_fill_2 k nn Q v n i s := by
  have h1 := isRow_lt hik
  intro d
  induction d with
  | zero =>
    intro i s h0 hi hs
    refine ⟨1, ⟨by omega, by omega⟩, ⟨by omega, by omega⟩, fun _ => ?_, fun h => absurd (by omega) h⟩
    rw [hs, show i = (nn : Int) by omega]
    exact hQ
  | succ d ih =>
    intro i s h0 hi hs
    have e : up s (k + 1) i v = ur σ (k + 1) (fun j => if 0 ≤ j ∧ j < i + 1 then v else σ (k + 1) j) := by
      rw [hs, up_ur]
      refine ur_congr (fun j => ?_)
      unfold ui
      dsimp only
      by_cases hj : j = i
      · subst hj
        rw [if_pos rfl, if_pos (by omega)]
      · rw [if_neg hj]
        split <;> split <;> first | rfl | (exfalso; omega)
    obtain ⟨n, hn⟩ := ih (i + 1) _ (by omega) (by omega) e
    exact ⟨n + 1, ⟨by omega, by omega⟩, ⟨by omega, by omega⟩, fun h => absurd h (by omega), fun _ => ⟨⟨h0, by omega⟩, fun s9 e9 => by rw [e9]; exact hn⟩⟩
theorem v_X4_fill (k nn : Nat) (hik : isRow k nn) (x1 : Int) (σ : St) (hp : pre_X4_fill k nn x1 σ) : V_X4_fill k nn x1 σ (post_X4_fill k nn x1 σ) := by
  refine l_X4_fill k nn hik x1 (post_X4_fill k nn x1 σ) σ rfl nn 0 σ (by omega) (by omega) ?_
  refine (ur_id (fun j => ?_)).symm
  rw [if_neg (by omega)]
theorem v_X5_copyFrom (b : Nat) (b2 : Nat) (hib : isSt b) (hib2 : isSt b2) (σ : St) (hp : pre_X5_copyFrom b b2 σ) : V_X5_copyFrom b b2 σ (post_X5_copyFrom b b2 σ) := by
  unfold pre_X5_copyFrom at hp
  intro s1 e1
  refine ⟨by unfold pre_X4_copyFrom; omega, fun s3 e3 => ⟨by unfold pre_X4_copyFrom; omega, fun s6 e6 => ⟨by unfold pre_X4_copyFrom; omega, fun s9 e9 => ⟨by unfold pre_X4_copyFrom; omega, fun s12 e12 => ?_⟩⟩⟩⟩
  rw [e12, e9, e6, e3, e1]
  rfl
theorem l_X5_insertByte (x1 x2 : Int) (σ : St) (hp : pre_X5_insertByte x1 x2 σ) (Q : St → Prop) (hQ : Q (eff_X5_insertByte x1 x2 σ)) : ∀ (d : Nat) (i : Int) (s : St), i = x1 + d → i ≤ σ 1 4 → s = ur σ 3 (fun j => if i < j ∧ j ≤ σ 1 4 then σ 3 (j - 1) else σ 3 j) → ∃ n, L_X5_insertByte_5 Q x1 x2 n i s := by
  obtain ⟨p0, p1, p2⟩ := hp
  intro d
  induction d with
  | zero =>
    intro i s hi hl hs
    have hi : i = x1 := by omega
    refine ⟨1, ⟨by omega, by omega⟩, ⟨by omega, by omega⟩, fun _ => ⟨⟨by omega, by omega⟩, fun s5 e5 s7 e7 => ?_⟩, fun h => absurd (by omega) h⟩
    have e : s7 = eff_X5_insertByte x1 x2 σ := by
      have h5 : s5 = ur σ 3 (fun j => if j = x1 then x2 else if x1 < j ∧ j ≤ σ 1 4 then σ 3 (j - 1) else σ 3 j) := by
        rw [e5]
        unfold eff_X4_set
        rw [if_pos (by omega), hs, up_ur]
        refine ur_congr (fun j => ?_)
        unfold ui
        rw [hi]
      rw [e7, h5]
      unfold eff_X5_insertByte
      rw [ur_n (q := 1) _ _ (by decide)]
    rw [e]
    exact hQ
  | succ d ih =>
    intro i s hi hl hs
    have e : eff_X4_set 2 100 i (ans_X4_get 2 100 (i - 1) s) s = ur σ 3 (fun j => if i - 1 < j ∧ j ≤ σ 1 4 then σ 3 (j - 1) else σ 3 j) := by
      unfold eff_X4_set ans_X4_get
      rw [if_pos (by omega), if_pos (by omega), hs, up_ur, ur_s]
      refine ur_congr (fun j => ?_)
      unfold ui
      dsimp only
      by_cases hj : j = i
      · subst hj
        rw [if_pos rfl, if_neg (by omega), if_pos (by omega)]
      · rw [if_neg hj]
        split <;> split <;> first | rfl | (exfalso; omega)
    obtain ⟨n, hn⟩ := ih (i - 1) _ (by omega) (by omega) e
    refine ⟨n + 1, ⟨by omega, by omega⟩, ⟨by omega, by omega⟩, fun h => absurd h (by omega), fun _ => ⟨⟨by omega, by omega⟩, fun r er => ⟨⟨by omega, by omega⟩, fun s9 e9 => ?_⟩⟩⟩
    rw [e9, er]
    exact hn
theorem v_X5_insertByte (x1 x2 : Int) (σ : St) (hp : pre_X5_insertByte x1 x2 σ) : V_X5_insertByte x1 x2 σ (post_X5_insertByte x1 x2 σ) := by
  obtain ⟨p0, p1, p2⟩ := id hp
  refine l_X5_insertByte x1 x2 σ hp (post_X5_insertByte x1 x2 σ) rfl (σ 1 4 - x1).toNat (σ 1 4) σ (by omega) (by omega) ?_
  refine (ur_id (fun j => ?_)).symm
  rw [if_neg (by omega)]
theorem l_X5_removeBytes (x1 x2 : Int) (σ : St) (hp : pre_X5_removeBytes x1 x2 σ) (Q : St → Prop) (hQ : Q (eff_X5_removeBytes x1 x2 σ)) : ∀ (d : Nat) (i : Int) (s : St), x1 ≤ i → i + d = σ 1 4 - x2 → s = ur (up σ 1 4 (σ 1 4 - x2)) 3 (fun j => if x1 ≤ j ∧ j < i then σ 3 (j + x2) else σ 3 j) → ∃ n, L_X5_removeBytes_12 Q x2 n i s := by
  obtain ⟨p0, p1, p2, p3⟩ := hp
  intro d
  induction d with
  | zero =>
    intro i s h0 hi hs
    have hl : s 1 4 = σ 1 4 - x2 := by rw [hs, ur_n (q := 1) _ _ (by decide), up_s, ui_s]
    refine ⟨1, ⟨by omega, by omega⟩, ⟨by omega, by omega⟩, fun _ => ?_, fun h => absurd (by omega) h⟩
    rw [hs, show i = σ 1 4 - x2 by omega]
    exact hQ
  | succ d ih =>
    intro i s h0 hi hs
    have hl : s 1 4 = σ 1 4 - x2 := by rw [hs, ur_n (q := 1) _ _ (by decide), up_s, ui_s]
    have e : eff_X4_set 2 100 i (ans_X4_get 2 100 (i + x2) s) s = ur (up σ 1 4 (σ 1 4 - x2)) 3 (fun j => if x1 ≤ j ∧ j < i + 1 then σ 3 (j + x2) else σ 3 j) := by
      unfold eff_X4_set ans_X4_get
      rw [if_pos (by omega), if_pos (by omega), hs, up_ur, ur_s]
      refine ur_congr (fun j => ?_)
      unfold ui
      dsimp only
      by_cases hj : j = i
      · subst hj
        rw [if_pos rfl, if_neg (by omega), if_pos (by omega)]
      · rw [if_neg hj]
        split <;> split <;> first | rfl | (exfalso; omega)
    obtain ⟨n, hn⟩ := ih (i + 1) _ (by omega) (by omega) e
    refine ⟨n + 1, ⟨by omega, by omega⟩, ⟨by omega, by omega⟩, fun h => absurd h (by omega), fun _ => ⟨⟨by omega, by omega⟩, fun r er => ⟨⟨by omega, by omega⟩, fun s9 e9 => ?_⟩⟩⟩
    rw [e9, er]
    exact hn
theorem v_X5_removeBytes (x1 x2 : Int) (σ : St) (hp : pre_X5_removeBytes x1 x2 σ) : V_X5_removeBytes x1 x2 σ (post_X5_removeBytes x1 x2 σ) := by
  obtain ⟨p0, p1, p2, p3⟩ := id hp
  intro s1 e1
  refine l_X5_removeBytes x1 x2 σ hp (post_X5_removeBytes x1 x2 σ) rfl (σ 1 4 - x2 - x1).toNat x1 s1 (by omega) (by omega) ?_
  rw [e1]
  refine (ur_id (fun j => ?_)).symm
  rw [if_neg (by omega), up_n _ _ _ (show 3 ≠ 1 by decide)]
theorem l_X5_setPattern (x1 x3 : Int) (σ : St) (hp : pre_X5_setPattern x1 x3 σ) (Q : St → Prop) (hQ : Q (eff_X5_setPattern x1 x3 σ)) : ∀ (d : Nat) (i : Int) (s : St), 0 ≤ i → i + d = x3 → s = ur (up σ 5 x1 x3) 7 (fun j => if x1 * 8 ≤ j ∧ j < x1 * 8 + i then σ 49 (j - x1 * 8) else σ 7 j) → ∃ n, L_X5_setPattern_12 Q x1 x3 n i s := by
  obtain ⟨p0, p1, p2, p3⟩ := hp
  intro d
  induction d with
  | zero =>
    intro i s h0 hi hs
    refine ⟨1, ⟨by omega, by omega⟩, ⟨by omega, by omega⟩, fun _ => ?_, fun h => absurd (by omega) h⟩
    rw [hs, show i = x3 by omega]
    exact hQ
  | succ d ih =>
    intro i s h0 hi hs
    have e : eff_X4_set 6 48 (x1 * 8 + i) (ans_X4_get 48 8 i s) s = ur (up σ 5 x1 x3) 7 (fun j => if x1 * 8 ≤ j ∧ j < x1 * 8 + (i + 1) then σ 49 (j - x1 * 8) else σ 7 j) := by
      unfold eff_X4_set ans_X4_get
      rw [if_pos (by omega), if_pos (by omega), hs, up_ur, ur_n (q := 48 + 1) _ _ (by decide), up_n (q := 48 + 1) _ _ _ (by decide)]
      refine ur_congr (fun j => ?_)
      unfold ui
      dsimp only
      by_cases hj : j = x1 * 8 + i
      · subst hj
        rw [if_pos rfl, if_pos (by omega), show x1 * 8 + i - x1 * 8 = i by omega]
      · rw [if_neg hj]
        split <;> split <;> first | rfl | (exfalso; omega)
    obtain ⟨n, hn⟩ := ih (i + 1) _ (by omega) (by omega) e
    refine ⟨n + 1, ⟨by omega, by omega⟩, ⟨by omega, by omega⟩, fun h => absurd h (by omega), fun _ => ⟨⟨by omega, by omega⟩, fun r er => ⟨⟨by omega, by omega⟩, fun s9 e9 => ?_⟩⟩⟩
    rw [e9, er]
    exact hn
theorem v_X5_setPattern (x1 x3 : Int) (σ : St) (hp : pre_X5_setPattern x1 x3 σ) : V_X5_setPattern x1 x3 σ (post_X5_setPattern x1 x3 σ) := by
  obtain ⟨p0, p1, p2, p3⟩ := id hp
  refine ⟨⟨by omega, by omega⟩, fun s1 e1 => ?_⟩
  refine l_X5_setPattern x1 x3 σ hp (post_X5_setPattern x1 x3 σ) rfl x3.toNat 0 s1 (by omega) (by omega) ?_
  rw [e1]
  unfold eff_X4_set
  rw [if_pos (by omega)]
  refine (ur_id (fun j => ?_)).symm
  rw [if_neg (by omega), up_n _ _ _ (show 7 ≠ 4 + 1 by decide)]
-- what copyFrom leaves as it was
theorem cpS_n (b b2 : Nat) (σ : St) {q : Nat} (h : q ≠ b) (h2 : q ≠ b + 2) (h4 : q ≠ b + 4) (h6 : q ≠ b + 6) (h8 : q ≠ b + 8) : eff_X5_copyFrom b b2 σ q = σ q := by
  unfold eff_X5_copyFrom eff_X4_copyFrom
  rw [ur_n _ _ (by omega), ur_n _ _ (by omega), ur_n _ _ (by omega), ur_n _ _ (by omega), up_n _ _ _ h]
theorem slot_st (x : Int) (σ : St) : isSt (ans_X1_slotAt x σ) ∧ 12 ≤ ans_X1_slotAt x σ ∧ ans_X1_slotAt x σ ≤ 39 := by
  unfold ans_X1_slotAt
  by_cases h : 0 ≤ x ∧ x < 4
  · rw [if_pos h]
    rcases (show x = 0 ∨ x = 1 ∨ x = 2 ∨ x = 3 by omega) with rfl | rfl | rfl | rfl
    · exact ⟨st_12, by decide, by decide⟩
    · exact ⟨st_21, by decide, by decide⟩
    · exact ⟨st_30, by decide, by decide⟩
    · exact ⟨st_39, by decide, by decide⟩
  · rw [if_neg h]
    exact ⟨st_12, by decide, by decide⟩
theorem v_X1_save (σ : St) (hp : pre_X1_save σ) : V_X1_save σ (post_X1_save σ) := by
  obtain ⟨p0, p1, p2, p3⟩ := hp
  refine ⟨⟨by omega, by omega⟩, fun q eq => ?_⟩
  obtain ⟨hs, h1, h2⟩ := slot_st (σ 10 1) σ
  rw [← eq] at hs h1 h2
  refine ⟨hs, Or.inr (by omega), fun s6 e6 => ?_⟩
  have f10 : s6 10 = σ 10 := by rw [e6]; exact cpS_n q 1 σ (by omega) (by omega) (by omega) (by omega) (by omega)
  have g : ∀ v : Int, up s6 10 1 v 10 2 = σ 10 2 := fun v => by rw [up_s, ui_n _ _ (by decide), f10]
  refine ⟨by rw [f10]; exact ⟨by omega, by omega⟩, fun h4 s10 e10 => ?_, fun h4 s10 e10 => ?_⟩
  · rw [f10] at h4
    refine ⟨by rw [e10, g]; exact ⟨by omega, by omega⟩, fun r er s13 e13 => ?_⟩
    show s13 = eff_X1_save σ
    rw [e13, er, e10, g]
    unfold eff_X1_save
    rw [if_neg (by omega), ← eq, ← e6]
  · rw [f10] at h4 e10
    refine ⟨by rw [e10, g]; exact ⟨by omega, by omega⟩, fun r er s13 e13 => ?_⟩
    show s13 = eff_X1_save σ
    rw [e13, er, e10, g]
    unfold eff_X1_save
    rw [if_pos (by omega), ← eq, ← e6]
theorem v_X6_prepareChange (σ : St) (hp : pre_X6_prepareChange σ) : V_X6_prepareChange σ (post_X6_prepareChange σ) := by
  refine ⟨hp, fun s2 e2 s4 e4 => ?_⟩
  show s4 = eff_X6_prepareChange σ
  rw [e4, e2]
  rfl
theorem v_X1_restore (σ : St) (hp : pre_X1_restore σ) : V_X1_restore σ (post_X1_restore σ) := by
  obtain ⟨p0, p1, p2, p3⟩ := hp
  have key : ∀ (v : Int), 0 ≤ v ∧ v ≤ 3 → v = (if 0 < σ 10 1 then σ 10 1 - 1 else 3) → ∀ s3 : St, s3 = up σ 10 1 v → (pre_X1_slotAt (s3 10 1) s3 ∧ (∀ q7 : Nat, q7 = ans_X1_slotAt (s3 10 1) s3 → (isSt q7 ∧ (pre_X5_copyFrom 1 q7 s3 ∧ (∀ s9 : St, s9 = eff_X5_copyFrom 1 q7 s3 → (inR ((s9 10 2) - 1) ∧ (∀ r12 : Int, r12 = max ((s9 10 2) - 1) 0 → (∀ s13 : St, s13 = up s9 10 2 r12 → post_X1_restore σ s13)))))))) := by
    intro v hv ev s3 e3
    have h1 : s3 10 1 = v := by rw [e3, up_s, ui_s]
    refine ⟨by rw [h1]; exact ⟨by omega, by omega⟩, fun q7 e7 => ?_⟩
    obtain ⟨hs, g1, g2⟩ := slot_st (s3 10 1) s3
    rw [← e7] at hs g1 g2
    refine ⟨hs, Or.inl (by omega), fun s9 e9 => ?_⟩
    have f10 : s9 10 = s3 10 := by rw [e9]; exact cpS_n 1 q7 s3 (by omega) (by omega) (by omega) (by omega) (by omega)
    have f2 : s9 10 2 = σ 10 2 := by rw [f10, e3, up_s, ui_n _ _ (by decide)]
    refine ⟨by rw [f2]; exact ⟨by omega, by omega⟩, fun r er s13 e13 => ?_⟩
    show s13 = eff_X1_restore σ
    rw [e13, er, f2, e9, e7, h1, e3, ev]
    rfl
  refine ⟨⟨by omega, by omega⟩, fun h => key 3 (by omega) (by rw [if_neg (by omega)]), fun h => key _ (by omega) (by rw [if_pos (by omega)])⟩
