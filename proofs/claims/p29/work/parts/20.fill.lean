def pre_X4_fill (k nn : Nat) (x1 : Int) (σ : St) : Prop := True
def eff_X4_fill (k nn : Nat) (x1 : Int) (σ : St) : St := ur σ (k + 1) (fun j => if 0 ≤ j ∧ j < (nn : Int) then x1 else σ (k + 1) j)
abbrev post_X4_fill (k nn : Nat) (x1 : Int) (σ : St) (σ' : St) : Prop := σ' = eff_X4_fill k nn x1 σ
def L_X4_fill_2 (k nn : Nat) (Q : St → Prop) (y1 : Int) : Nat → Int → St → Prop
  | 0, _, _ => False
  | n + 1, y2, σ => (inR y2 ∧ (inR (nn : Int) ∧ (((nn : Int) ≤ y2 → Q σ) ∧ (¬ ((nn : Int) ≤ y2) → (((0 : Int) ≤ y2 ∧ (y2 : Int) < (nn : Int)) ∧ (∀ s5 : St, s5 = up σ (k+1) y2 y1 → L_X4_fill_2 k nn Q y1 n (y2 + 1) s5))))))
def V_X4_fill (k nn : Nat) (x1 : Int) (σ : St) (Q : St → Prop) : Prop := (∃ n_, L_X4_fill_2 k nn Q x1 n_ 0 σ)
theorem up_ur (σ : St) (k : Nat) (f : Int → Int) (i v : Int) : up (ur σ k f) k i v = ur σ k (ui f i v) := by
  unfold up
  rw [ur_s]
  funext q
  unfold ur
  split <;> rfl
theorem ur_self (σ : St) (k : Nat) : ur σ k (σ k) = σ := by
  funext q
  unfold ur
  split
  · next h => rw [h]
  · rfl
theorem ur_congr {σ : St} {k : Nat} {f g : Int → Int} (h : ∀ j, f j = g j) : ur σ k f = ur σ k g := by rw [show f = g from funext h]
theorem ur_id {σ : St} {k : Nat} {f : Int → Int} (h : ∀ j, f j = σ k j) : ur σ k f = σ := by
  rw [show f = σ k from funext h, ur_self]
abbrev rm_X4_fill : Room := ({ frames := 0, cells := 0, slots := 0, locals := 0 } : Room)
theorem hd_X4_fill : yX4_fill.cls = RX4 ∧ yX4_fill.cls ≠ "java/lang/invoke/MethodHandle" ∧ yX4_fill.cls ≠ "java/lang/invoke/VarHandle" ∧ (parseMethodDescriptor yX4_fill.desc).map (fun d => d.parameters.length) = some 1 := ⟨rfl, by decide +kernel, by decide +kernel, by decide +kernel⟩
