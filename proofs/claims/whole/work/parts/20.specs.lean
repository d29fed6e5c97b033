def pre_X5_textSize (σ : St) : Prop := True
def ans_X5_textSize (σ : St) : Int := σ 1 4
abbrev post_X5_textSize (σ : St) (r : Int) (σ' : St) : Prop := r = ans_X5_textSize σ ∧ σ' = σ
def pre_X6_isByte (x0 : Int) (σ : St) : Prop := inR x0
def ans_X6_isByte (x0 : Int) (σ : St) : Int := if 32 ≤ x0 ∧ x0 ≤ 126 then 1 else 0
abbrev post_X6_isByte (x0 : Int) (σ : St) (r : Int) (σ' : St) : Prop := r = ans_X6_isByte x0 σ ∧ σ' = σ
def pre_X4_get (k nn : Nat) (x1 : Int) (σ : St) : Prop := inR x1
def ans_X4_get (k nn : Nat) (x1 : Int) (σ : St) : Int := if 0 ≤ x1 ∧ x1 < (nn : Int) then σ (k + 1) x1 else -1
abbrev post_X4_get (k nn : Nat) (x1 : Int) (σ : St) (r : Int) (σ' : St) : Prop := r = ans_X4_get k nn x1 σ ∧ σ' = σ
def pre_X4_set (k nn : Nat) (x1 x2 : Int) (σ : St) : Prop := inR x1
def eff_X4_set (k nn : Nat) (x1 x2 : Int) (σ : St) : St := if 0 ≤ x1 ∧ x1 < (nn : Int) then up σ (k + 1) x1 x2 else σ
abbrev post_X4_set (k nn : Nat) (x1 x2 : Int) (σ : St) (σ' : St) : Prop := σ' = eff_X4_set k nn x1 x2 σ
def pre_X6_fail (x1 : Int) (σ : St) : Prop := -4 ≤ x1 ∧ x1 ≤ -2
def ans_X6_fail (x1 : Int) (σ : St) : Int := x1
def eff_X6_fail (x1 : Int) (σ : St) : St := up σ 51 (-2 - x1) (σ 51 (-2 - x1) + 1)
abbrev post_X6_fail (x1 : Int) (σ : St) (r : Int) (σ' : St) : Prop := r = ans_X6_fail x1 σ ∧ σ' = eff_X6_fail x1 σ
def pre_X1_slotAt (x1 : Int) (σ : St) : Prop := inR x1
def ans_X1_slotAt (x1 : Int) (σ : St) : Nat := 12 + 9 * Int.toNat (if 0 ≤ x1 ∧ x1 < 4 then x1 else 0)
abbrev post_X1_slotAt (x1 : Int) (σ : St) (r : Nat) (σ' : St) : Prop := r = ans_X1_slotAt x1 σ ∧ σ' = σ
def pre_X4_copyFrom (k nn : Nat) (k2 nn2 : Nat) (σ : St) : Prop := k ≠ k2
def eff_X4_copyFrom (k nn : Nat) (k2 nn2 : Nat) (σ : St) : St := ur σ (k + 1) (fun j => if 0 ≤ j ∧ j < (nn : Int) ∧ j < (nn2 : Int) then σ (k2 + 1) j else σ (k + 1) j)
abbrev post_X4_copyFrom (k nn : Nat) (k2 nn2 : Nat) (σ : St) (σ' : St) : Prop := σ' = eff_X4_copyFrom k nn k2 nn2 σ
def pre_X5_copyFrom (b : Nat) (b2 : Nat) (σ : St) : Prop := (b + 9 ≤ b2 ∨ b2 + 9 ≤ b)
def eff_X5_copyFrom (b : Nat) (b2 : Nat) (σ : St) : St := eff_X4_copyFrom (b + 7) 6 (b2 + 7) 6 (eff_X4_copyFrom (b + 5) 48 (b2 + 5) 48 (eff_X4_copyFrom (b + 3) 6 (b2 + 3) 6 (eff_X4_copyFrom (b + 1) 100 (b2 + 1) 100 (up σ b 4 (σ b2 4)))))
abbrev post_X5_copyFrom (b : Nat) (b2 : Nat) (σ : St) (σ' : St) : Prop := σ' = eff_X5_copyFrom b b2 σ
def pre_X1_save (σ : St) : Prop := 0 ≤ σ 10 1 ∧ σ 10 1 ≤ 3 ∧ 0 ≤ σ 10 2 ∧ σ 10 2 ≤ 4
def eff_X1_save (σ : St) : St := up (up (eff_X5_copyFrom (ans_X1_slotAt (σ 10 1) σ) 1 σ) 10 1 (if σ 10 1 + 1 < 4 then σ 10 1 + 1 else 0)) 10 2 (min (σ 10 2 + 1) 4)
abbrev post_X1_save (σ : St) (σ' : St) : Prop := σ' = eff_X1_save σ
def pre_X6_prepareChange (σ : St) : Prop := pre_X1_save σ
def eff_X6_prepareChange (σ : St) : St := up (eff_X1_save σ) 0 7 1
abbrev post_X6_prepareChange (σ : St) (σ' : St) : Prop := σ' = eff_X6_prepareChange σ
def pre_X5_insertByte (x1 x2 : Int) (σ : St) : Prop := 0 ≤ x1 ∧ x1 ≤ σ 1 4 ∧ σ 1 4 < 100
def eff_X5_insertByte (x1 x2 : Int) (σ : St) : St := up (ur σ 3 (fun j => if j = x1 then x2 else if x1 < j ∧ j ≤ σ 1 4 then σ 3 (j - 1) else σ 3 j)) 1 4 (σ 1 4 + 1)
abbrev post_X5_insertByte (x1 x2 : Int) (σ : St) (σ' : St) : Prop := σ' = eff_X5_insertByte x1 x2 σ
def pre_X6_insert (x1 x2 : Int) (σ : St) : Prop := inR x1 ∧ inR x2 ∧ 0 ≤ σ 1 4 ∧ σ 1 4 ≤ 100 ∧ pre_X1_save σ
def ans_X6_insert (x1 x2 : Int) (σ : St) : Int := if ¬ (0 ≤ x1 ∧ x1 ≤ σ 1 4 ∧ 32 ≤ x2 ∧ x2 ≤ 126) then (-2) else if 100 ≤ σ 1 4 then (-4) else σ 1 4 + 1
def eff_X6_insert (x1 x2 : Int) (σ : St) : St := if ¬ (0 ≤ x1 ∧ x1 ≤ σ 1 4 ∧ 32 ≤ x2 ∧ x2 ≤ 126) then eff_X6_fail (-2) σ else if 100 ≤ σ 1 4 then eff_X6_fail (-4) σ else eff_X5_insertByte x1 x2 (eff_X6_prepareChange σ)
abbrev post_X6_insert (x1 x2 : Int) (σ : St) (r : Int) (σ' : St) : Prop := r = ans_X6_insert x1 x2 σ ∧ σ' = eff_X6_insert x1 x2 σ
def pre_X6_isInText (x1 : Int) (σ : St) : Prop := inR x1 ∧ inR (σ 1 4)
def ans_X6_isInText (x1 : Int) (σ : St) : Int := if 0 ≤ x1 ∧ x1 < σ 1 4 then 1 else 0
abbrev post_X6_isInText (x1 : Int) (σ : St) (r : Int) (σ' : St) : Prop := r = ans_X6_isInText x1 σ ∧ σ' = σ
def pre_X5_textAt (x1 : Int) (σ : St) : Prop := 0 ≤ x1 ∧ x1 ≤ 100 ∧ 0 ≤ σ 1 4 ∧ σ 1 4 ≤ 100
def ans_X5_textAt (x1 : Int) (σ : St) : Int := if x1 < σ 1 4 then σ 3 x1 else -1
abbrev post_X5_textAt (x1 : Int) (σ : St) (r : Int) (σ' : St) : Prop := r = ans_X5_textAt x1 σ ∧ σ' = σ
def pre_X5_setByte (x1 x2 : Int) (σ : St) : Prop := 0 ≤ x1 ∧ x1 < 100
def eff_X5_setByte (x1 x2 : Int) (σ : St) : St := up σ 3 x1 x2
abbrev post_X5_setByte (x1 x2 : Int) (σ : St) (σ' : St) : Prop := σ' = eff_X5_setByte x1 x2 σ
def pre_X6_replace (x1 x2 : Int) (σ : St) : Prop := inR x1 ∧ inR x2 ∧ 0 ≤ σ 1 4 ∧ σ 1 4 ≤ 100 ∧ pre_X1_save σ
def ans_X6_replace (x1 x2 : Int) (σ : St) : Int := if ¬ (0 ≤ x1 ∧ x1 < σ 1 4 ∧ 32 ≤ x2 ∧ x2 ≤ 126) then (-2) else σ 3 x1
def eff_X6_replace (x1 x2 : Int) (σ : St) : St := if ¬ (0 ≤ x1 ∧ x1 < σ 1 4 ∧ 32 ≤ x2 ∧ x2 ≤ 126) then eff_X6_fail (-2) σ else eff_X5_setByte x1 x2 (eff_X6_prepareChange σ)
abbrev post_X6_replace (x1 x2 : Int) (σ : St) (r : Int) (σ' : St) : Prop := r = ans_X6_replace x1 x2 σ ∧ σ' = eff_X6_replace x1 x2 σ
def pre_X5_removeBytes (x1 x2 : Int) (σ : St) : Prop := 0 ≤ x1 ∧ 1 ≤ x2 ∧ x1 + x2 ≤ σ 1 4 ∧ σ 1 4 ≤ 100
def eff_X5_removeBytes (x1 x2 : Int) (σ : St) : St := ur (up σ 1 4 (σ 1 4 - x2)) 3 (fun j => if x1 ≤ j ∧ j < σ 1 4 - x2 then σ 3 (j + x2) else σ 3 j)
abbrev post_X5_removeBytes (x1 x2 : Int) (σ : St) (σ' : St) : Prop := σ' = eff_X5_removeBytes x1 x2 σ
def pre_X6_delete (x1 x2 : Int) (σ : St) : Prop := inR x1 ∧ inR x2 ∧ 0 ≤ σ 1 4 ∧ σ 1 4 ≤ 100 ∧ pre_X1_save σ
def ans_X6_delete (x1 x2 : Int) (σ : St) : Int := if ¬ (0 ≤ x1 ∧ x1 < σ 1 4 ∧ 1 ≤ x2 ∧ x2 ≤ σ 1 4 - x1) then (-2) else σ 1 4 - x2
def eff_X6_delete (x1 x2 : Int) (σ : St) : St := if ¬ (0 ≤ x1 ∧ x1 < σ 1 4 ∧ 1 ≤ x2 ∧ x2 ≤ σ 1 4 - x1) then eff_X6_fail (-2) σ else eff_X5_removeBytes x1 x2 (eff_X6_prepareChange σ)
abbrev post_X6_delete (x1 x2 : Int) (σ : St) (r : Int) (σ' : St) : Prop := r = ans_X6_delete x1 x2 σ ∧ σ' = eff_X6_delete x1 x2 σ
def pre_X6_length (σ : St) : Prop := True
def ans_X6_length (σ : St) : Int := σ 1 4
abbrev post_X6_length (σ : St) (r : Int) (σ' : St) : Prop := r = ans_X6_length σ ∧ σ' = σ
def pre_X6_byteAt (x1 : Int) (σ : St) : Prop := inR x1 ∧ 0 ≤ σ 1 4 ∧ σ 1 4 ≤ 100
def ans_X6_byteAt (x1 : Int) (σ : St) : Int := if 0 ≤ x1 ∧ x1 < σ 1 4 then σ 3 x1 else (-2)
def eff_X6_byteAt (x1 : Int) (σ : St) : St := if 0 ≤ x1 ∧ x1 < σ 1 4 then σ else eff_X6_fail (-2) σ
abbrev post_X6_byteAt (x1 : Int) (σ : St) (r : Int) (σ' : St) : Prop := r = ans_X6_byteAt x1 σ ∧ σ' = eff_X6_byteAt x1 σ
def pre_X6_append (x1 : Int) (σ : St) : Prop := inR x1 ∧ 0 ≤ σ 0 6 ∧ σ 0 6 ≤ 8
def ans_X6_append (x1 : Int) (σ : St) : Int := if ¬ (32 ≤ x1 ∧ x1 ≤ 126) then (-2) else if 8 ≤ σ 0 6 then (-4) else σ 0 6 + 1
def eff_X6_append (x1 : Int) (σ : St) : St := if ¬ (32 ≤ x1 ∧ x1 ≤ 126) then eff_X6_fail (-2) σ else if 8 ≤ σ 0 6 then eff_X6_fail (-4) σ else up (up σ 49 (σ 0 6) x1) 0 6 (σ 0 6 + 1)
abbrev post_X6_append (x1 : Int) (σ : St) (r : Int) (σ' : St) : Prop := r = ans_X6_append x1 σ ∧ σ' = eff_X6_append x1 σ
def pre_X6_clearPattern (σ : St) : Prop := True
def ans_X6_clearPattern (σ : St) : Int := σ 0 6
def eff_X6_clearPattern (σ : St) : St := up σ 0 6 0
abbrev post_X6_clearPattern (σ : St) (r : Int) (σ' : St) : Prop := r = ans_X6_clearPattern σ ∧ σ' = eff_X6_clearPattern σ
def pre_X6_isRule (x0 : Int) (σ : St) : Prop := inR x0
def ans_X6_isRule (x0 : Int) (σ : St) : Int := if 0 ≤ x0 ∧ x0 < 6 then 1 else 0
abbrev post_X6_isRule (x0 : Int) (σ : St) (r : Int) (σ' : St) : Prop := r = ans_X6_isRule x0 σ ∧ σ' = σ
def pre_X6_isReference (x0 : Int) (σ : St) : Prop := inR x0
def ans_X6_isReference (x0 : Int) (σ : St) : Int := if 65 ≤ x0 ∧ x0 ≤ 70 then 1 else 0
abbrev post_X6_isReference (x0 : Int) (σ : St) (r : Int) (σ' : St) : Prop := r = ans_X6_isReference x0 σ ∧ σ' = σ
def pre_X6_canStartPattern (x0 : Int) (σ : St) : Prop := inR x0
def ans_X6_canStartPattern (x0 : Int) (σ : St) : Int := if x0 = 126 ∨ (65 ≤ x0 ∧ x0 ≤ 70) then 0 else 1
abbrev post_X6_canStartPattern (x0 : Int) (σ : St) (r : Int) (σ' : St) : Prop := r = ans_X6_canStartPattern x0 σ ∧ σ' = σ
def pre_X5_setPattern (x1 x3 : Int) (σ : St) : Prop := 0 ≤ x1 ∧ x1 < 6 ∧ 0 ≤ x3 ∧ x3 ≤ 8
def eff_X5_setPattern (x1 x3 : Int) (σ : St) : St := ur (up σ 5 x1 x3) 7 (fun j => if x1 * 8 ≤ j ∧ j < x1 * 8 + x3 then σ 49 (j - x1 * 8) else σ 7 j)
abbrev post_X5_setPattern (x1 x3 : Int) (σ : St) (σ' : St) : Prop := σ' = eff_X5_setPattern x1 x3 σ
def pre_X6_define (x1 : Int) (σ : St) : Prop := inR x1 ∧ 0 ≤ σ 0 6 ∧ σ 0 6 ≤ 8 ∧ inR (σ 49 0) ∧ pre_X1_save σ
def ans_X6_define (x1 : Int) (σ : St) : Int := if ¬ (0 ≤ x1 ∧ x1 < 6) then (-2) else if σ 0 6 = 0 ∨ (σ 49 0 = 126 ∨ (65 ≤ σ 49 0 ∧ σ 49 0 ≤ 70)) then (-3) else σ 0 6
def eff_X6_define (x1 : Int) (σ : St) : St := if ¬ (0 ≤ x1 ∧ x1 < 6) then eff_X6_fail (-2) σ else if σ 0 6 = 0 ∨ (σ 49 0 = 126 ∨ (65 ≤ σ 49 0 ∧ σ 49 0 ≤ 70)) then eff_X6_fail (-3) σ else eff_X5_setPattern x1 (σ 0 6) (eff_X6_prepareChange σ)
abbrev post_X6_define (x1 : Int) (σ : St) (r : Int) (σ' : St) : Prop := r = ans_X6_define x1 σ ∧ σ' = eff_X6_define x1 σ
def pre_X5_patternSize (x1 : Int) (σ : St) : Prop := 0 ≤ x1 ∧ x1 < 6
def ans_X5_patternSize (x1 : Int) (σ : St) : Int := σ 5 x1
abbrev post_X5_patternSize (x1 : Int) (σ : St) (r : Int) (σ' : St) : Prop := r = ans_X5_patternSize x1 σ ∧ σ' = σ
def pre_X6_undefine (x1 : Int) (σ : St) : Prop := inR x1 ∧ pre_X1_save σ
def ans_X6_undefine (x1 : Int) (σ : St) : Int := if ¬ (0 ≤ x1 ∧ x1 < 6) then (-2) else σ 5 x1
def eff_X6_undefine (x1 : Int) (σ : St) : St := if ¬ (0 ≤ x1 ∧ x1 < 6) then eff_X6_fail (-2) σ else eff_X5_setPattern x1 0 (eff_X6_prepareChange σ)
abbrev post_X6_undefine (x1 : Int) (σ : St) (r : Int) (σ' : St) : Prop := r = ans_X6_undefine x1 σ ∧ σ' = eff_X6_undefine x1 σ
def pre_X5_stopOf (x1 : Int) (σ : St) : Prop := 0 ≤ x1 ∧ x1 < 6
def ans_X5_stopOf (x1 : Int) (σ : St) : Int := σ 9 x1
abbrev post_X5_stopOf (x1 : Int) (σ : St) (r : Int) (σ' : St) : Prop := r = ans_X5_stopOf x1 σ ∧ σ' = σ
def pre_X5_putStop (x1 x2 : Int) (σ : St) : Prop := 0 ≤ x1 ∧ x1 < 6
def eff_X5_putStop (x1 x2 : Int) (σ : St) : St := up σ 9 x1 x2
abbrev post_X5_putStop (x1 x2 : Int) (σ : St) (σ' : St) : Prop := σ' = eff_X5_putStop x1 x2 σ
def pre_X6_setStop (x1 x2 : Int) (σ : St) : Prop := inR x1 ∧ inR x2 ∧ pre_X1_save σ
def ans_X6_setStop (x1 x2 : Int) (σ : St) : Int := if ¬ (0 ≤ x1 ∧ x1 < 6 ∧ (x2 = -1 ∨ (32 ≤ x2 ∧ x2 ≤ 126))) then (-2) else σ 9 x1
def eff_X6_setStop (x1 x2 : Int) (σ : St) : St := if ¬ (0 ≤ x1 ∧ x1 < 6 ∧ (x2 = -1 ∨ (32 ≤ x2 ∧ x2 ≤ 126))) then eff_X6_fail (-2) σ else eff_X5_putStop x1 x2 (eff_X6_prepareChange σ)
abbrev post_X6_setStop (x1 x2 : Int) (σ : St) (r : Int) (σ' : St) : Prop := r = ans_X6_setStop x1 x2 σ ∧ σ' = eff_X6_setStop x1 x2 σ
def pre_X5_patternAt (x1 x2 : Int) (σ : St) : Prop := 0 ≤ x1 ∧ x1 < 6 ∧ 0 ≤ x2 ∧ x2 < 8
def ans_X5_patternAt (x1 x2 : Int) (σ : St) : Int := σ 7 (x1 * 8 + x2)
abbrev post_X5_patternAt (x1 x2 : Int) (σ : St) (r : Int) (σ' : St) : Prop := r = ans_X5_patternAt x1 x2 σ ∧ σ' = σ
def pre_X6_element (x1 x2 : Int) (σ : St) : Prop := inR x1 ∧ inR x2 ∧ ∀ r, 0 ≤ r → r < 6 → 0 ≤ σ 5 r ∧ σ 5 r ≤ 8
def ans_X6_element (x1 x2 : Int) (σ : St) : Int := if ¬ (0 ≤ x1 ∧ x1 < 6 ∧ 0 ≤ x2) then (-2) else (if x2 < σ 5 x1 then σ 7 (x1 * 8 + x2) else -1)
def eff_X6_element (x1 x2 : Int) (σ : St) : St := if ¬ (0 ≤ x1 ∧ x1 < 6 ∧ 0 ≤ x2) then eff_X6_fail (-2) σ else σ
abbrev post_X6_element (x1 x2 : Int) (σ : St) (r : Int) (σ' : St) : Prop := r = ans_X6_element x1 x2 σ ∧ σ' = eff_X6_element x1 x2 σ
def pre_X6_isDigit (x0 : Int) (σ : St) : Prop := inR x0
def ans_X6_isDigit (x0 : Int) (σ : St) : Int := if 48 ≤ x0 ∧ x0 ≤ 57 then 1 else 0
abbrev post_X6_isDigit (x0 : Int) (σ : St) (r : Int) (σ' : St) : Prop := r = ans_X6_isDigit x0 σ ∧ σ' = σ
def pre_X2_runEnd (k nn : Nat) (x1 : Int) (σ : St) : Prop := inR (x1 + 1) ∧ inR (σ (k + 1) (x1 + 1))
def ans_X2_runEnd (k nn : Nat) (x1 : Int) (σ : St) : Int := if 0 ≤ x1 + 1 ∧ x1 + 1 < (nn : Int) ∧ ¬ σ (k + 1) (x1 + 1) = -1 then σ (k + 1) (x1 + 1) else x1 + 1
abbrev post_X2_runEnd (k nn : Nat) (x1 : Int) (σ : St) (r : Int) (σ' : St) : Prop := r = ans_X2_runEnd k nn x1 σ ∧ σ' = σ
def pre_X6_isLetter (x0 : Int) (σ : St) : Prop := inR x0
def ans_X6_isLetter (x0 : Int) (σ : St) : Int := if 97 ≤ x0 ∧ x0 ≤ 122 then 1 else 0
abbrev post_X6_isLetter (x0 : Int) (σ : St) (r : Int) (σ' : St) : Prop := r = ans_X6_isLetter x0 σ ∧ σ' = σ
def pre_X2_markRuns (x1 : Int) (σ : St) : Prop := 0 ≤ x1 ∧ x1 ≤ 100 ∧ 0 ≤ σ 1 4 ∧ σ 1 4 ≤ 100 ∧ MB σ ∧ (x1 < σ 1 4 → inR (σ 3 x1))
def eff_X2_markRuns (x1 : Int) (σ : St) : St := up (up σ 54 x1 (if 48 ≤ ans_X5_textAt x1 σ ∧ ans_X5_textAt x1 σ ≤ 57 then ans_X2_runEnd 53 101 x1 σ else -1)) 56 x1 (if 97 ≤ ans_X5_textAt x1 σ ∧ ans_X5_textAt x1 σ ≤ 122 then ans_X2_runEnd 55 101 x1 σ else -1)
abbrev post_X2_markRuns (x1 : Int) (σ : St) (σ' : St) : Prop := σ' = eff_X2_markRuns x1 σ
def pre_X0_get (x1 x2 x3 : Int) (σ : St) : Prop := 0 ≤ x1 ∧ x1 ≤ 5 ∧ 0 ≤ x2 ∧ x2 ≤ 8 ∧ -1 ≤ x3 ∧ x3 ≤ 100
def ans_X0_get (x1 x2 x3 : Int) (σ : St) : Int := tget σ x1 x2 x3
abbrev post_X0_get (x1 x2 x3 : Int) (σ : St) (r : Int) (σ' : St) : Prop := r = ans_X0_get x1 x2 x3 σ ∧ σ' = σ
def pre_X2_elementEnd (x1 x2 : Int) (σ : St) : Prop := 0 ≤ x1 ∧ x1 ≤ 126 ∧ 0 ≤ x2 ∧ x2 ≤ 100 ∧ 0 ≤ σ 1 4 ∧ σ 1 4 ≤ 100 ∧ MB σ ∧ (x2 < σ 1 4 → inR (σ 3 x2))
def ans_X2_elementEnd (x1 x2 : Int) (σ : St) : Int := if x1 = 35 then σ 54 x2 else if x1 = 64 then σ 56 x2 else if 65 ≤ x1 ∧ x1 ≤ 70 then ct σ (x1 - 65) 0 x2 else if x2 < σ 1 4 ∧ σ 3 x2 = x1 then x2 + 1 else -1
abbrev post_X2_elementEnd (x1 x2 : Int) (σ : St) (r : Int) (σ' : St) : Prop := r = ans_X2_elementEnd x1 x2 σ ∧ σ' = σ
def pre_X0_set (x1 x2 x3 x4 : Int) (σ : St) : Prop := 0 ≤ x1 ∧ x1 ≤ 5 ∧ 0 ≤ x2 ∧ x2 ≤ 8 ∧ 0 ≤ x3 ∧ x3 ≤ 100
def eff_X0_set (x1 x2 x3 x4 : Int) (σ : St) : St := up σ 60 ((x1 * 9 + x2) * 101 + x3) x4
abbrev post_X0_set (x1 x2 x3 x4 : Int) (σ : St) (σ' : St) : Prop := σ' = eff_X0_set x1 x2 x3 x4 σ
def pre_X2_matchIslands (x1 : Int) (σ : St) : Prop := 0 ≤ x1 ∧ x1 ≤ 100 ∧ MB σ ∧ gWF (cg σ 1)
def post_X2_matchIslands (x1 : Int) (σ : St) (σ' : St) : Prop := MB σ' ∧ (∀ q, q ≠ 58 → q ≠ 60 → σ' q = σ q) ∧ (∀ j, j ≠ x1 → σ' 58 j = σ 58 j) ∧ (∀ r i p, 0 ≤ r → r < 6 → 0 ≤ i → i ≤ 8 → 0 ≤ p → p ≤ 100 → (i ≠ 0 ∨ p ≠ x1) → ct σ' r i p = ct σ r i p) ∧ (∀ r, 0 ≤ r → r < 6 → ct σ' r 0 x1 = if σ 5 r ≤ 0 then -1 else tget σ r 1 (ans_X2_elementEnd (σ 7 (r * 8 + 0)) x1 σ)) ∧ σ' 58 x1 = first (ct σ') x1
def pre_X2_waterRestEnd (x1 x2 x3 : Int) (σ : St) : Prop := 0 ≤ x1 ∧ x1 ≤ 5 ∧ 0 ≤ x2 ∧ x2 ≤ 7 ∧ 0 ≤ x3 ∧ x3 ≤ 100 ∧ 0 ≤ σ 1 4 ∧ σ 1 4 ≤ 100 ∧ MB σ ∧ (x3 < σ 1 4 → 32 ≤ σ 3 x3 ∧ σ 3 x3 ≤ 126) ∧ inR (σ 9 x1)
def ans_X2_waterRestEnd (x1 x2 x3 : Int) (σ : St) : Int := if ¬ ct σ x1 (x2 + 1) x3 = -1 then ct σ x1 (x2 + 1) x3 else if ¬ σ 58 x3 = -1 then tget σ x1 x2 (ct σ (σ 58 x3) 0 x3) else if ¬ x3 < σ 1 4 ∨ σ 3 x3 = σ 9 x1 then -1 else ct σ x1 x2 (x3 + 1)
abbrev post_X2_waterRestEnd (x1 x2 x3 : Int) (σ : St) (r : Int) (σ' : St) : Prop := r = ans_X2_waterRestEnd x1 x2 x3 σ ∧ σ' = σ
def pre_X2_matchRests (x1 x2 : Int) (σ : St) : Prop := 0 ≤ x1 ∧ x1 ≤ 5 ∧ 0 ≤ x2 ∧ x2 ≤ 100 ∧ MB σ ∧ gWF (cg σ 1) ∧ (∀ f, 0 ≤ f → f < 6 → ct σ f 0 x2 ≠ x2)
def post_X2_matchRests (x1 x2 : Int) (σ : St) (σ' : St) : Prop := MB σ' ∧ (∀ q, q ≠ 60 → σ' q = σ q) ∧ (∀ r i p, 0 ≤ r → r < 6 → 0 ≤ i → i ≤ 8 → 0 ≤ p → p ≤ 100 → (r ≠ x1 ∨ i = 0 ∨ p ≠ x2) → ct σ' r i p = ct σ r i p) ∧ (∀ i, 1 ≤ i → i ≤ σ 5 x1 → ct σ' x1 i x2 = if i = σ' 5 x1 then x2 else if σ' 7 (x1 * 8 + i) = 126 then ans_X2_waterRestEnd x1 i x2 σ' else tget σ' x1 (i + 1) (ans_X2_elementEnd (σ' 7 (x1 * 8 + i)) x2 σ'))
def pre_X2_update (σ : St) : Prop := MB σ ∧ gWF (cg σ 1)
def post_X2_update (σ : St) (σ' : St) : Prop := MB σ' ∧ (∀ q, q ≠ 54 → q ≠ 56 → q ≠ 58 → q ≠ 60 → σ' q = σ q) ∧ Good (cg σ 1) (ct σ') ∧ (∀ p, 0 ≤ p → p ≤ σ 1 4 → σ' 58 p = first (ct σ') p ∧ σ' 54 p = runE (cg σ 1) 48 57 p ∧ σ' 56 p = runE (cg σ 1) 97 122 p)
def pre_X4_fill (k nn : Nat) (x1 : Int) (σ : St) : Prop := True
def eff_X4_fill (k nn : Nat) (x1 : Int) (σ : St) : St := ur σ (k + 1) (fun j => if 0 ≤ j ∧ j < (nn : Int) then x1 else σ (k + 1) j)
abbrev post_X4_fill (k nn : Nat) (x1 : Int) (σ : St) (σ' : St) : Prop := σ' = eff_X4_fill k nn x1 σ
def pre_X3_clear (σ : St) : Prop := True
def eff_X3_clear (σ : St) : St := up (up (up (up (up (ur σ 77 (fun j => if 0 ≤ j ∧ j < 100 then -1 else σ 77 j)) 61 11 0) 61 12 0) 61 13 0) 61 14 0) 61 15 0
abbrev post_X3_clear (σ : St) (σ' : St) : Prop := σ' = eff_X3_clear σ
def pre_X2_firstRule (x1 : Int) (σ : St) : Prop := inR x1
def ans_X2_firstRule (x1 : Int) (σ : St) : Int := if 0 ≤ x1 ∧ x1 < 101 then σ 58 x1 else -1
abbrev post_X2_firstRule (x1 : Int) (σ : St) (r : Int) (σ' : St) : Prop := r = ans_X2_firstRule x1 σ ∧ σ' = σ
def pre_X3_announce (x1 x2 x3 : Int) (σ : St) : Prop := 0 ≤ x1 ∧ x1 < 100
def eff_X3_announce (x1 x2 x3 : Int) (σ : St) : St := up (up σ 77 x1 x2) 79 x1 x3
abbrev post_X3_announce (x1 x2 x3 : Int) (σ : St) (σ' : St) : Prop := σ' = eff_X3_announce x1 x2 x3 σ
def pre_X2_islandEnd (x1 x2 : Int) (σ : St) : Prop := 0 ≤ x1 ∧ x1 ≤ 5 ∧ -1 ≤ x2 ∧ x2 ≤ 100
def ans_X2_islandEnd (x1 x2 : Int) (σ : St) : Int := tget σ x1 0 x2
abbrev post_X2_islandEnd (x1 x2 : Int) (σ : St) (r : Int) (σ' : St) : Prop := r = ans_X2_islandEnd x1 x2 σ ∧ σ' = σ
def pre_X3_takeTopLevel (x1 : Int) (σ : St) : Prop := 0 ≤ x1 ∧ x1 < 100 ∧ MB σ ∧ inR (σ 61 15) ∧ inR (σ 61 14 + 1)
def ans_X3_takeTopLevel (x1 : Int) (σ : St) : Int := if σ 58 x1 = -1 then x1 + 1 else tget σ (σ 58 x1) 0 x1
def eff_X3_takeTopLevel (x1 : Int) (σ : St) : St := if σ 58 x1 = -1 then up (up (up σ 61 13 (σ 61 13 + 1)) 61 14 (σ 61 14 + 1)) 61 15 (max (σ 61 15) (σ 61 14 + 1)) else eff_X3_announce x1 (σ 58 x1) (-1) (up (up σ 61 14 0) 61 12 (σ 61 12 + 1))
abbrev post_X3_takeTopLevel (x1 : Int) (σ : St) (r : Int) (σ' : St) : Prop := r = ans_X3_takeTopLevel x1 σ ∧ σ' = eff_X3_takeTopLevel x1 σ
def pre_X3_addNode (x1 : Int) (σ : St) : Prop := 0 ≤ x1 ∧ x1 < 100 ∧ 0 ≤ σ 61 11 ∧ σ 61 11 < 100 ∧ 0 ≤ σ 77 x1 ∧ σ 77 x1 ≤ 5 ∧ -1 ≤ σ 79 x1 ∧ σ 79 x1 < 100
def eff_X3_addNode (x1 : Int) (σ : St) : St := up (up (up (up (up (up (up (up σ 63 (σ 61 11) (σ 77 x1)) 65 (σ 61 11) x1) 67 (σ 61 11) (tget σ (σ 77 x1) 0 x1)) 69 (σ 61 11) (σ 79 x1)) 71 (σ 61 11) (if σ 79 x1 = -1 then 0 else σ 71 (σ 79 x1) + 1)) 73 (σ 61 11) 0) 75 (σ 61 11) (-1)) 61 11 (σ 61 11 + 1)
abbrev post_X3_addNode (x1 : Int) (σ : St) (σ' : St) : Prop := σ' = eff_X3_addNode x1 σ
def pre_X2_restMatches (x1 x2 x3 : Int) (σ : St) : Prop := 0 ≤ x1 ∧ x1 ≤ 5 ∧ 0 ≤ x2 ∧ x2 ≤ 8 ∧ -1 ≤ x3 ∧ x3 ≤ 100 ∧ MB σ
def ans_X2_restMatches (x1 x2 x3 : Int) (σ : St) : Int := if ¬ tget σ x1 x2 x3 = -1 then 1 else 0
abbrev post_X2_restMatches (x1 x2 x3 : Int) (σ : St) (r : Int) (σ' : St) : Prop := r = ans_X2_restMatches x1 x2 x3 σ ∧ σ' = σ
def pre_X3_walkWater (x1 x2 x3 : Int) (σ : St) : Prop := 0 ≤ x1 ∧ x1 < 100 ∧ 0 ≤ σ 63 x1 ∧ σ 63 x1 < 6 ∧ 0 ≤ x2 ∧ x2 < gs (cg σ 1) (σ 63 x1) ∧ ge (cg σ 1) (σ 63 x1) x2 = 126 ∧ 1 ≤ x3 ∧ x3 ≤ σ 1 4 ∧ ct σ (σ 63 x1) x2 x3 ≠ -1 ∧ MB σ ∧ gWF (cg σ 1) ∧ Good (cg σ 1) (ct σ) ∧ (∀ p, 0 ≤ p → p ≤ σ 1 4 → σ 58 p = first (ct σ) p ∧ σ 54 p = runE (cg σ 1) 48 57 p ∧ σ 56 p = runE (cg σ 1) 97 122 p)
def post_X3_walkWater (x1 x2 x3 : Int) (σ : St) (r : Int) (σ' : St) : Prop := σ' 75 = σ 75 ∧ ∃ m, CW (cg σ 1) (ct σ) σ x1 (σ 63 x1) (x2, x3) m σ' ∧ tr (cg σ 1) (ct σ) (σ 63 x1) (x2, x3) m = (x2 + 1, r)
def pre_X5_numberBetween (x1 x2 : Int) (σ : St) : Prop := 0 ≤ x1 ∧ x1 ≤ x2 ∧ x2 ≤ σ 1 4 ∧ σ 1 4 ≤ 100 ∧ (∀ p, x1 ≤ p → p < x2 → 48 ≤ σ 3 p ∧ σ 3 p ≤ 57)
def ans_X5_numberBetween (x1 x2 : Int) (σ : St) : Int := nb (σ 3) x1 (x2 - x1).toNat
abbrev post_X5_numberBetween (x1 x2 : Int) (σ : St) (r : Int) (σ' : St) : Prop := r = ans_X5_numberBetween x1 x2 σ ∧ σ' = σ
def pre_X3_walkPattern (x1 : Int) (σ : St) : Prop := 0 ≤ x1 ∧ x1 < 100 ∧ 0 ≤ σ 63 x1 ∧ σ 63 x1 < 6 ∧ 0 ≤ σ 65 x1 ∧ σ 65 x1 ≤ σ 1 4 ∧ ct σ (σ 63 x1) 0 (σ 65 x1) ≠ -1 ∧ σ 75 x1 = -1 ∧ MB σ ∧ gWF (cg σ 1) ∧ Good (cg σ 1) (ct σ) ∧ (∀ p, 0 ≤ p → p ≤ σ 1 4 → σ 58 p = first (ct σ) p ∧ σ 54 p = runE (cg σ 1) 48 57 p ∧ σ 56 p = runE (cg σ 1) 97 122 p)
def post_X3_walkPattern (x1 : Int) (σ : St) (σ' : St) : Prop := (∃ n, (tr (cg σ 1) (ct σ) (σ 63 x1) (0, σ 65 x1) n).1 = gs (cg σ 1) (σ 63 x1) ∧ CW (cg σ 1) (ct σ) σ x1 (σ 63 x1) (0, σ 65 x1) n σ') ∧ ∃ v, isN (cg σ 1) (ct σ) (σ 63 x1) (σ 65 x1) v ∧ σ' 75 = ui (σ 75) x1 v
def pre_X3_update (σ : St) : Prop := MB σ ∧ gWF (cg σ 1) ∧ Good (cg σ 1) (ct σ) ∧ (∀ p, 0 ≤ p → p ≤ σ 1 4 → σ 58 p = first (ct σ) p ∧ σ 54 p = runE (cg σ 1) 48 57 p ∧ σ 56 p = runE (cg σ 1) 97 122 p)
def post_X3_update (σ : St) (σ' : St) : Prop := (∀ q, q < 61 ∨ 80 ≤ q → σ' q = σ q) ∧ PO (cg σ 1) (ct σ) σ'
def pre_X6_refresh (σ : St) : Prop := RF σ
def post_X6_refresh (σ : St) (σ' : St) : Prop := RFP σ σ'
def pre_X6_matchEnd (x1 x2 : Int) (σ : St) : Prop := RF σ ∧ inR x1 ∧ inR x2
def post_X6_matchEnd (x1 x2 : Int) (σ : St) (r : Int) (σ' : St) : Prop := (¬ (0 ≤ x1 ∧ x1 < 6 ∧ 0 ≤ x2 ∧ x2 ≤ σ 1 4) → r = -2 ∧ σ' = eff_X6_fail (-2) σ) ∧ ((0 ≤ x1 ∧ x1 < 6 ∧ 0 ≤ x2 ∧ x2 ≤ σ 1 4) → RFP σ σ' ∧ r = ct σ' x1 0 x2)
def pre_X3_total (σ : St) : Prop := True
def ans_X3_total (σ : St) : Int := σ 61 11
abbrev post_X3_total (σ : St) (r : Int) (σ' : St) : Prop := r = ans_X3_total σ ∧ σ' = σ
def pre_X6_nodeCount (σ : St) : Prop := RF σ
def post_X6_nodeCount (σ : St) (r : Int) (σ' : St) : Prop := RFP σ σ' ∧ r = σ' 61 11
def pre_X3_topLevelTotal (σ : St) : Prop := True
def ans_X3_topLevelTotal (σ : St) : Int := σ 61 12
abbrev post_X3_topLevelTotal (σ : St) (r : Int) (σ' : St) : Prop := r = ans_X3_topLevelTotal σ ∧ σ' = σ
def pre_X6_islandCount (σ : St) : Prop := RF σ
def post_X6_islandCount (σ : St) (r : Int) (σ' : St) : Prop := RFP σ σ' ∧ r = σ' 61 12
def pre_X3_has (x1 : Int) (σ : St) : Prop := inR x1 ∧ inR (σ 61 11)
def ans_X3_has (x1 : Int) (σ : St) : Int := if 0 ≤ x1 ∧ x1 < σ 61 11 then 1 else 0
abbrev post_X3_has (x1 : Int) (σ : St) (r : Int) (σ' : St) : Prop := r = ans_X3_has x1 σ ∧ σ' = σ
def pre_X3_ruleOf (x1 : Int) (σ : St) : Prop := inR x1
def ans_X3_ruleOf (x1 : Int) (σ : St) : Int := if 0 ≤ x1 ∧ x1 < 100 then σ 63 x1 else -1
abbrev post_X3_ruleOf (x1 : Int) (σ : St) (r : Int) (σ' : St) : Prop := r = ans_X3_ruleOf x1 σ ∧ σ' = σ
def pre_X6_nodeRule (x1 : Int) (σ : St) : Prop := RF σ ∧ inR x1
def post_X6_nodeRule (x1 : Int) (σ : St) (r : Int) (σ' : St) : Prop := ∃ s, RFP σ s ∧ ((0 ≤ x1 ∧ x1 < s 61 11) → r = s 63 x1 ∧ σ' = s) ∧ (¬ (0 ≤ x1 ∧ x1 < s 61 11) → r = -2 ∧ σ' = eff_X6_fail (-2) s)
def pre_X3_startOf (x1 : Int) (σ : St) : Prop := inR x1
def ans_X3_startOf (x1 : Int) (σ : St) : Int := if 0 ≤ x1 ∧ x1 < 100 then σ 65 x1 else -1
abbrev post_X3_startOf (x1 : Int) (σ : St) (r : Int) (σ' : St) : Prop := r = ans_X3_startOf x1 σ ∧ σ' = σ
def pre_X6_nodeStart (x1 : Int) (σ : St) : Prop := RF σ ∧ inR x1
def post_X6_nodeStart (x1 : Int) (σ : St) (r : Int) (σ' : St) : Prop := ∃ s, RFP σ s ∧ ((0 ≤ x1 ∧ x1 < s 61 11) → r = s 65 x1 ∧ σ' = s) ∧ (¬ (0 ≤ x1 ∧ x1 < s 61 11) → r = -2 ∧ σ' = eff_X6_fail (-2) s)
def pre_X3_endOf (x1 : Int) (σ : St) : Prop := inR x1
def ans_X3_endOf (x1 : Int) (σ : St) : Int := if 0 ≤ x1 ∧ x1 < 100 then σ 67 x1 else -1
abbrev post_X3_endOf (x1 : Int) (σ : St) (r : Int) (σ' : St) : Prop := r = ans_X3_endOf x1 σ ∧ σ' = σ
def pre_X6_nodeEnd (x1 : Int) (σ : St) : Prop := RF σ ∧ inR x1
def post_X6_nodeEnd (x1 : Int) (σ : St) (r : Int) (σ' : St) : Prop := ∃ s, RFP σ s ∧ ((0 ≤ x1 ∧ x1 < s 61 11) → r = s 67 x1 ∧ σ' = s) ∧ (¬ (0 ≤ x1 ∧ x1 < s 61 11) → r = -2 ∧ σ' = eff_X6_fail (-2) s)
def pre_X3_parentOf (x1 : Int) (σ : St) : Prop := inR x1
def ans_X3_parentOf (x1 : Int) (σ : St) : Int := if 0 ≤ x1 ∧ x1 < 100 then σ 69 x1 else -1
abbrev post_X3_parentOf (x1 : Int) (σ : St) (r : Int) (σ' : St) : Prop := r = ans_X3_parentOf x1 σ ∧ σ' = σ
def pre_X6_nodeParent (x1 : Int) (σ : St) : Prop := RF σ ∧ inR x1
def post_X6_nodeParent (x1 : Int) (σ : St) (r : Int) (σ' : St) : Prop := ∃ s, RFP σ s ∧ ((0 ≤ x1 ∧ x1 < s 61 11) → r = s 69 x1 ∧ σ' = s) ∧ (¬ (0 ≤ x1 ∧ x1 < s 61 11) → r = -2 ∧ σ' = eff_X6_fail (-2) s)
def pre_X3_depthOf (x1 : Int) (σ : St) : Prop := inR x1
def ans_X3_depthOf (x1 : Int) (σ : St) : Int := if 0 ≤ x1 ∧ x1 < 100 then σ 71 x1 else -1
abbrev post_X3_depthOf (x1 : Int) (σ : St) (r : Int) (σ' : St) : Prop := r = ans_X3_depthOf x1 σ ∧ σ' = σ
def pre_X6_nodeDepth (x1 : Int) (σ : St) : Prop := RF σ ∧ inR x1
def post_X6_nodeDepth (x1 : Int) (σ : St) (r : Int) (σ' : St) : Prop := ∃ s, RFP σ s ∧ ((0 ≤ x1 ∧ x1 < s 61 11) → r = s 71 x1 ∧ σ' = s) ∧ (¬ (0 ≤ x1 ∧ x1 < s 61 11) → r = -2 ∧ σ' = eff_X6_fail (-2) s)
def pre_X3_waterOf (x1 : Int) (σ : St) : Prop := inR x1
def ans_X3_waterOf (x1 : Int) (σ : St) : Int := if 0 ≤ x1 ∧ x1 < 100 then σ 73 x1 else -1
abbrev post_X3_waterOf (x1 : Int) (σ : St) (r : Int) (σ' : St) : Prop := r = ans_X3_waterOf x1 σ ∧ σ' = σ
def pre_X6_nodeWater (x1 : Int) (σ : St) : Prop := RF σ ∧ inR x1
def post_X6_nodeWater (x1 : Int) (σ : St) (r : Int) (σ' : St) : Prop := ∃ s, RFP σ s ∧ ((0 ≤ x1 ∧ x1 < s 61 11) → r = s 73 x1 ∧ σ' = s) ∧ (¬ (0 ≤ x1 ∧ x1 < s 61 11) → r = -2 ∧ σ' = eff_X6_fail (-2) s)
def pre_X3_numberOf (x1 : Int) (σ : St) : Prop := inR x1
def ans_X3_numberOf (x1 : Int) (σ : St) : Int := if 0 ≤ x1 ∧ x1 < 100 then σ 75 x1 else -1
abbrev post_X3_numberOf (x1 : Int) (σ : St) (r : Int) (σ' : St) : Prop := r = ans_X3_numberOf x1 σ ∧ σ' = σ
def pre_X6_nodeNumber (x1 : Int) (σ : St) : Prop := RF σ ∧ inR x1
def post_X6_nodeNumber (x1 : Int) (σ : St) (r : Int) (σ' : St) : Prop := ∃ s, RFP σ s ∧ ((0 ≤ x1 ∧ x1 < s 61 11) → r = s 75 x1 ∧ σ' = s) ∧ (¬ (0 ≤ x1 ∧ x1 < s 61 11) → r = -2 ∧ σ' = eff_X6_fail (-2) s)
def pre_X3_innermostAt (x1 : Int) (σ : St) : Prop := inR x1 ∧ 0 ≤ σ 61 11 ∧ σ 61 11 ≤ 100 ∧ (∀ j, 0 ≤ j → j < σ 61 11 → inR (σ 65 j) ∧ inR (σ 67 j))
def ans_X3_innermostAt (x1 : Int) (σ : St) : Int := inn σ x1 (σ 61 11).toNat
abbrev post_X3_innermostAt (x1 : Int) (σ : St) (r : Int) (σ' : St) : Prop := r = ans_X3_innermostAt x1 σ ∧ σ' = σ
def pre_X6_nodeAt (x1 : Int) (σ : St) : Prop := RF σ ∧ inR x1
def post_X6_nodeAt (x1 : Int) (σ : St) (r : Int) (σ' : St) : Prop := (¬ (0 ≤ x1 ∧ x1 < σ 1 4) → r = -2 ∧ σ' = eff_X6_fail (-2) σ) ∧ ((0 ≤ x1 ∧ x1 < σ 1 4) → RFP σ σ' ∧ r = inn σ' x1 (σ' 61 11).toNat)
def pre_X3_topWater (σ : St) : Prop := True
def ans_X3_topWater (σ : St) : Int := σ 61 13
abbrev post_X3_topWater (σ : St) (r : Int) (σ' : St) : Prop := r = ans_X3_topWater σ ∧ σ' = σ
def pre_X6_waterLength (σ : St) : Prop := RF σ
def post_X6_waterLength (σ : St) (r : Int) (σ' : St) : Prop := RFP σ σ' ∧ r = σ' 61 13
def pre_X3_longestTopWater (σ : St) : Prop := True
def ans_X3_longestTopWater (σ : St) : Int := σ 61 15
abbrev post_X3_longestTopWater (σ : St) (r : Int) (σ' : St) : Prop := r = ans_X3_longestTopWater σ ∧ σ' = σ
def pre_X6_longestWater (σ : St) : Prop := RF σ
def post_X6_longestWater (σ : St) (r : Int) (σ' : St) : Prop := RFP σ σ' ∧ r = σ' 61 15
def pre_X3_totalOf (x1 : Int) (σ : St) : Prop := inR x1 ∧ 0 ≤ σ 61 11 ∧ σ 61 11 ≤ 100 ∧ (∀ j, 0 ≤ j → j < σ 61 11 → inR (σ 63 j))
def ans_X3_totalOf (x1 : Int) (σ : St) : Int := cntr σ x1 (σ 61 11).toNat
abbrev post_X3_totalOf (x1 : Int) (σ : St) (r : Int) (σ' : St) : Prop := r = ans_X3_totalOf x1 σ ∧ σ' = σ
def pre_X6_countOf (x1 : Int) (σ : St) : Prop := RF σ ∧ inR x1
def post_X6_countOf (x1 : Int) (σ : St) (r : Int) (σ' : St) : Prop := (¬ (0 ≤ x1 ∧ x1 < 6) → r = -2 ∧ σ' = eff_X6_fail (-2) σ) ∧ ((0 ≤ x1 ∧ x1 < 6) → RFP σ σ' ∧ r = cntr σ' x1 (σ' 61 11).toNat)
def pre_X1_savedCount (σ : St) : Prop := True
def ans_X1_savedCount (σ : St) : Int := σ 10 2
abbrev post_X1_savedCount (σ : St) (r : Int) (σ' : St) : Prop := r = ans_X1_savedCount σ ∧ σ' = σ
def pre_X1_restore (σ : St) : Prop := 0 ≤ σ 10 1 ∧ σ 10 1 ≤ 3 ∧ 1 ≤ σ 10 2 ∧ σ 10 2 ≤ 4
def eff_X1_restore (σ : St) : St := up (eff_X5_copyFrom 1 (ans_X1_slotAt (if 0 < σ 10 1 then σ 10 1 - 1 else 3) σ) (up σ 10 1 (if 0 < σ 10 1 then σ 10 1 - 1 else 3))) 10 2 (max (σ 10 2 - 1) 0)
abbrev post_X1_restore (σ : St) (σ' : St) : Prop := σ' = eff_X1_restore σ
def pre_X6_undo (σ : St) : Prop := pre_X1_save σ
def ans_X6_undo (σ : St) : Int := if σ 10 2 = 0 then (-3) else σ 10 2 - 1
def eff_X6_undo (σ : St) : St := if σ 10 2 = 0 then eff_X6_fail (-3) σ else up (eff_X1_restore σ) 0 7 1
abbrev post_X6_undo (σ : St) (r : Int) (σ' : St) : Prop := r = ans_X6_undo σ ∧ σ' = eff_X6_undo σ
def pre_X6_errorCount (x1 : Int) (σ : St) : Prop := inR x1
def ans_X6_errorCount (x1 : Int) (σ : St) : Int := if 0 ≤ x1 ∧ x1 < 3 then σ 51 x1 else (-2)
def eff_X6_errorCount (x1 : Int) (σ : St) : St := if 0 ≤ x1 ∧ x1 < 3 then σ else eff_X6_fail (-2) σ
abbrev post_X6_errorCount (x1 : Int) (σ : St) (r : Int) (σ' : St) : Prop := r = ans_X6_errorCount x1 σ ∧ σ' = eff_X6_errorCount x1 σ
def pre_X6_mix (x0 x2 : Int) (σ : St) : Prop := True
def ans_X6_mix (x0 x2 : Int) (σ : St) : Int := 31 * x0 + x2
abbrev post_X6_mix (x0 x2 : Int) (σ : St) (r : Int) (σ' : St) : Prop := r = ans_X6_mix x0 x2 σ ∧ σ' = σ
def pre_X4_mixInto (k nn : Nat) (x1 x3 x4 : Int) (σ : St) : Prop := 0 ≤ x3 ∧ x3 ≤ 1000 ∧ 0 ≤ x4 ∧ x4 ≤ 1000 ∧ x3 + x4 ≤ (nn : Int) ∧ (∀ j, x3 ≤ j → j < x3 + x4 → inR (σ (k + 1) j))
def ans_X4_mixInto (k nn : Nat) (x1 x3 x4 : Int) (σ : St) : Int := mixr (fun j => σ (k + 1) (x3 + j)) x1 x4.toNat
abbrev post_X4_mixInto (k nn : Nat) (x1 x3 x4 : Int) (σ : St) (r : Int) (σ' : St) : Prop := r = ans_X4_mixInto k nn x1 x3 x4 σ ∧ σ' = σ
def pre_X5_mixInto (x1 : Int) (σ : St) : Prop := gWF (cg σ 1)
def ans_X5_mixInto (x1 : Int) (σ : St) : Int := mixR (σ 5) (fun r i => σ 7 (r * 8 + i)) (σ 9) (mixr (σ 3) (31 * x1 + σ 1 4) (σ 1 4).toNat) 6
abbrev post_X5_mixInto (x1 : Int) (σ : St) (r : Int) (σ' : St) : Prop := r = ans_X5_mixInto x1 σ ∧ σ' = σ
def pre_X3_mixInto (x1 : Int) (σ : St) : Prop := 0 ≤ σ 61 11 ∧ σ 61 11 ≤ 100 ∧ inR (σ 61 13) ∧ inR (σ 61 15) ∧ (∀ j, 0 ≤ j → j < σ 61 11 → inR (σ 63 j) ∧ inR (σ 65 j) ∧ inR (σ 67 j) ∧ inR (σ 69 j) ∧ inR (σ 73 j) ∧ inR (σ 75 j))
def ans_X3_mixInto (x1 : Int) (σ : St) : Int := 31 * (31 * mixN σ (31 * x1 + σ 61 11) (σ 61 11).toNat + σ 61 13) + σ 61 15
abbrev post_X3_mixInto (x1 : Int) (σ : St) (r : Int) (σ' : St) : Prop := r = ans_X3_mixInto x1 σ ∧ σ' = σ
def pre_X6_digest (σ : St) : Prop := RF σ ∧ inR (σ 0 6) ∧ inR (σ 10 2) ∧ (∀ j, 0 ≤ j → j < 3 → inR (σ 51 j))
def post_X6_digest (σ : St) (r : Int) (σ' : St) : Prop := RFP σ σ' ∧ r = 31 * (31 * mixN σ' (31 * mixR (σ 5) (fun r i => σ 7 (r * 8 + i)) (σ 9) (mixr (σ 3) (31 * (31 * (31 * mixr (σ 51) 17305 3 + σ 0 6) + σ 10 2) + σ 1 4) (σ 1 4).toNat) 6 + σ' 61 11) (σ' 61 11).toNat + σ' 61 13) + σ' 61 15
def pre_X7_in (x0 x1 x2 : Int) (σ : St) : Prop := inR x0 ∧ inR x1 ∧ inR x2
def ans_X7_in (x0 x1 x2 : Int) (σ : St) : Int := if x1 ≤ x0 ∧ x0 ≤ x2 then 1 else 0
abbrev post_X7_in (x0 x1 x2 : Int) (σ : St) (r : Int) (σ' : St) : Prop := r = ans_X7_in x0 x1 x2 σ ∧ σ' = σ
def pre_X7_fail (x1 : Int) (σ : St) : Prop := -4 ≤ x1 ∧ x1 ≤ -2
def ans_X7_fail (x1 : Int) (σ : St) : Int := x1
def eff_X7_fail (x1 : Int) (σ : St) : St := up σ 84 (-2 - x1) (σ 84 (-2 - x1) + 1)
abbrev post_X7_fail (x1 : Int) (σ : St) (r : Int) (σ' : St) : Prop := r = ans_X7_fail x1 σ ∧ σ' = eff_X7_fail x1 σ
def pre_X7_save (σ : St) : Prop := 0 ≤ σ 80 2 ∧ σ 80 2 ≤ 4
def eff_X7_save (σ : St) : St := up (ur σ 82 (fun j => if 161 * (if σ 80 2 = 4 then 3 else σ 80 2) ≤ j ∧ j < 161 * (if σ 80 2 = 4 then 3 else σ 80 2) + 161 then σ 81 (j - 161 * (if σ 80 2 = 4 then 3 else σ 80 2)) else if σ 80 2 = 4 ∧ 0 ≤ j ∧ j < 483 then σ 82 (j + 161) else σ 82 j)) 80 2 ((if σ 80 2 = 4 then 3 else σ 80 2) + 1)
abbrev post_X7_save (σ : St) (σ' : St) : Prop := σ' = eff_X7_save σ
def pre_X7_isByte (x0 : Int) (σ : St) : Prop := inR x0
def ans_X7_isByte (x0 : Int) (σ : St) : Int := if 32 ≤ x0 ∧ x0 ≤ 126 then 1 else 0
abbrev post_X7_isByte (x0 : Int) (σ : St) (r : Int) (σ' : St) : Prop := r = ans_X7_isByte x0 σ ∧ σ' = σ
def pre_X7_isPosition (x1 : Int) (σ : St) : Prop := inR x1 ∧ 0 ≤ σ 81 0 ∧ σ 81 0 ≤ 100
def ans_X7_isPosition (x1 : Int) (σ : St) : Int := if 0 ≤ x1 ∧ x1 < σ 81 0 then 1 else 0
abbrev post_X7_isPosition (x1 : Int) (σ : St) (r : Int) (σ' : St) : Prop := r = ans_X7_isPosition x1 σ ∧ σ' = σ
def pre_X7_insert (x1 x2 : Int) (σ : St) : Prop := inR x1 ∧ inR x2 ∧ 0 ≤ σ 81 0 ∧ σ 81 0 ≤ 100 ∧ 0 ≤ σ 80 2 ∧ σ 80 2 ≤ 4
def ans_X7_insert (x1 x2 : Int) (σ : St) : Int := if ¬ (0 ≤ x1 ∧ x1 ≤ σ 81 0 ∧ 32 ≤ x2 ∧ x2 ≤ 126) then (-2) else if 100 ≤ σ 81 0 then (-4) else σ 81 0 + 1
def eff_X7_insert (x1 x2 : Int) (σ : St) : St := if ¬ (0 ≤ x1 ∧ x1 ≤ σ 81 0 ∧ 32 ≤ x2 ∧ x2 ≤ 126) then eff_X7_fail (-2) σ else if 100 ≤ σ 81 0 then eff_X7_fail (-4) σ else ur (eff_X7_save σ) 81 (fun j => if j = 0 then σ 81 0 + 1 else if j = 1 + x1 then x2 else if 1 + x1 < j ∧ j ≤ 1 + σ 81 0 then σ 81 (j - 1) else σ 81 j)
abbrev post_X7_insert (x1 x2 : Int) (σ : St) (r : Int) (σ' : St) : Prop := r = ans_X7_insert x1 x2 σ ∧ σ' = eff_X7_insert x1 x2 σ
def pre_X7_replace (x1 x2 : Int) (σ : St) : Prop := inR x1 ∧ inR x2 ∧ 0 ≤ σ 81 0 ∧ σ 81 0 ≤ 100 ∧ 0 ≤ σ 80 2 ∧ σ 80 2 ≤ 4
def ans_X7_replace (x1 x2 : Int) (σ : St) : Int := if ¬ (0 ≤ x1 ∧ x1 < σ 81 0 ∧ 32 ≤ x2 ∧ x2 ≤ 126) then (-2) else σ 81 (1 + x1)
def eff_X7_replace (x1 x2 : Int) (σ : St) : St := if ¬ (0 ≤ x1 ∧ x1 < σ 81 0 ∧ 32 ≤ x2 ∧ x2 ≤ 126) then eff_X7_fail (-2) σ else up (eff_X7_save σ) 81 (1 + x1) x2
abbrev post_X7_replace (x1 x2 : Int) (σ : St) (r : Int) (σ' : St) : Prop := r = ans_X7_replace x1 x2 σ ∧ σ' = eff_X7_replace x1 x2 σ
def pre_X7_delete (x1 x2 : Int) (σ : St) : Prop := inR x1 ∧ inR x2 ∧ 0 ≤ σ 81 0 ∧ σ 81 0 ≤ 100 ∧ 0 ≤ σ 80 2 ∧ σ 80 2 ≤ 4
def ans_X7_delete (x1 x2 : Int) (σ : St) : Int := if ¬ (0 ≤ x1 ∧ x1 < σ 81 0 ∧ 1 ≤ x2 ∧ x2 ≤ σ 81 0 - x1) then (-2) else σ 81 0 - x2
def eff_X7_delete (x1 x2 : Int) (σ : St) : St := if ¬ (0 ≤ x1 ∧ x1 < σ 81 0 ∧ 1 ≤ x2 ∧ x2 ≤ σ 81 0 - x1) then eff_X7_fail (-2) σ else ur (eff_X7_save σ) 81 (fun j => if j = 0 then σ 81 0 - x2 else if 1 + x1 ≤ j ∧ j < 1 + σ 81 0 - x2 then σ 81 (j + x2) else σ 81 j)
abbrev post_X7_delete (x1 x2 : Int) (σ : St) (r : Int) (σ' : St) : Prop := r = ans_X7_delete x1 x2 σ ∧ σ' = eff_X7_delete x1 x2 σ
def pre_X7_length (σ : St) : Prop := True
def ans_X7_length (σ : St) : Int := σ 81 0
abbrev post_X7_length (σ : St) (r : Int) (σ' : St) : Prop := r = ans_X7_length σ ∧ σ' = σ
def pre_X7_byteAt (x1 : Int) (σ : St) : Prop := inR x1 ∧ 0 ≤ σ 81 0 ∧ σ 81 0 ≤ 100
def ans_X7_byteAt (x1 : Int) (σ : St) : Int := if 0 ≤ x1 ∧ x1 < σ 81 0 then σ 81 (1 + x1) else (-2)
def eff_X7_byteAt (x1 : Int) (σ : St) : St := if 0 ≤ x1 ∧ x1 < σ 81 0 then σ else eff_X7_fail (-2) σ
abbrev post_X7_byteAt (x1 : Int) (σ : St) (r : Int) (σ' : St) : Prop := r = ans_X7_byteAt x1 σ ∧ σ' = eff_X7_byteAt x1 σ
def pre_X7_isRule (x0 : Int) (σ : St) : Prop := inR x0
def ans_X7_isRule (x0 : Int) (σ : St) : Int := if 0 ≤ x0 ∧ x0 < 6 then 1 else 0
abbrev post_X7_isRule (x0 : Int) (σ : St) (r : Int) (σ' : St) : Prop := r = ans_X7_isRule x0 σ ∧ σ' = σ
def pre_X7_append (x1 : Int) (σ : St) : Prop := inR x1 ∧ 0 ≤ σ 80 4 ∧ σ 80 4 ≤ 8
def ans_X7_append (x1 : Int) (σ : St) : Int := if ¬ (32 ≤ x1 ∧ x1 ≤ 126) then (-2) else if 8 ≤ σ 80 4 then (-4) else σ 80 4 + 1
def eff_X7_append (x1 : Int) (σ : St) : St := if ¬ (32 ≤ x1 ∧ x1 ≤ 126) then eff_X7_fail (-2) σ else if 8 ≤ σ 80 4 then eff_X7_fail (-4) σ else up (up σ 83 (σ 80 4) x1) 80 4 (σ 80 4 + 1)
abbrev post_X7_append (x1 : Int) (σ : St) (r : Int) (σ' : St) : Prop := r = ans_X7_append x1 σ ∧ σ' = eff_X7_append x1 σ
def pre_X7_clearPattern (σ : St) : Prop := True
def ans_X7_clearPattern (σ : St) : Int := σ 80 4
def eff_X7_clearPattern (σ : St) : St := up σ 80 4 0
abbrev post_X7_clearPattern (σ : St) (r : Int) (σ' : St) : Prop := r = ans_X7_clearPattern σ ∧ σ' = eff_X7_clearPattern σ
def pre_X7_isReference (x0 : Int) (σ : St) : Prop := inR x0
def ans_X7_isReference (x0 : Int) (σ : St) : Int := if 65 ≤ x0 ∧ x0 ≤ 70 then 1 else 0
abbrev post_X7_isReference (x0 : Int) (σ : St) (r : Int) (σ' : St) : Prop := r = ans_X7_isReference x0 σ ∧ σ' = σ
def pre_X7_define (x1 : Int) (σ : St) : Prop := inR x1 ∧ 0 ≤ σ 80 4 ∧ σ 80 4 ≤ 8 ∧ inR (σ 83 0) ∧ 0 ≤ σ 80 2 ∧ σ 80 2 ≤ 4
def ans_X7_define (x1 : Int) (σ : St) : Int := if ¬ (0 ≤ x1 ∧ x1 < 6) then (-2) else if σ 80 4 = 0 ∨ (σ 83 0 = 126 ∨ (65 ≤ σ 83 0 ∧ σ 83 0 ≤ 70)) then (-3) else σ 80 4
def eff_X7_define (x1 : Int) (σ : St) : St := if ¬ (0 ≤ x1 ∧ x1 < 6) then eff_X7_fail (-2) σ else if σ 80 4 = 0 ∨ (σ 83 0 = 126 ∨ (65 ≤ σ 83 0 ∧ σ 83 0 ≤ 70)) then eff_X7_fail (-3) σ else ur (eff_X7_save σ) 81 (fun j => if j = 101 + x1 then σ 80 4 else if 107 + 8 * x1 ≤ j ∧ j < 107 + 8 * x1 + σ 80 4 then σ 83 (j - (107 + 8 * x1)) else σ 81 j)
abbrev post_X7_define (x1 : Int) (σ : St) (r : Int) (σ' : St) : Prop := r = ans_X7_define x1 σ ∧ σ' = eff_X7_define x1 σ
def pre_X7_undefine (x1 : Int) (σ : St) : Prop := inR x1 ∧ 0 ≤ σ 80 2 ∧ σ 80 2 ≤ 4
def ans_X7_undefine (x1 : Int) (σ : St) : Int := if ¬ (0 ≤ x1 ∧ x1 < 6) then (-2) else σ 81 (101 + x1)
def eff_X7_undefine (x1 : Int) (σ : St) : St := if ¬ (0 ≤ x1 ∧ x1 < 6) then eff_X7_fail (-2) σ else up (eff_X7_save σ) 81 (101 + x1) 0
abbrev post_X7_undefine (x1 : Int) (σ : St) (r : Int) (σ' : St) : Prop := r = ans_X7_undefine x1 σ ∧ σ' = eff_X7_undefine x1 σ
def pre_X7_setStop (x1 x2 : Int) (σ : St) : Prop := inR x1 ∧ inR x2 ∧ 0 ≤ σ 80 2 ∧ σ 80 2 ≤ 4
def ans_X7_setStop (x1 x2 : Int) (σ : St) : Int := if ¬ (0 ≤ x1 ∧ x1 < 6 ∧ (x2 = -1 ∨ (32 ≤ x2 ∧ x2 ≤ 126))) then (-2) else σ 81 (155 + x1)
def eff_X7_setStop (x1 x2 : Int) (σ : St) : St := if ¬ (0 ≤ x1 ∧ x1 < 6 ∧ (x2 = -1 ∨ (32 ≤ x2 ∧ x2 ≤ 126))) then eff_X7_fail (-2) σ else up (eff_X7_save σ) 81 (155 + x1) x2
abbrev post_X7_setStop (x1 x2 : Int) (σ : St) (r : Int) (σ' : St) : Prop := r = ans_X7_setStop x1 x2 σ ∧ σ' = eff_X7_setStop x1 x2 σ
def pre_X7_elementOf (x1 x2 : Int) (σ : St) : Prop := 0 ≤ x1 ∧ x1 < 6 ∧ 0 ≤ x2 ∧ x2 < 8
def ans_X7_elementOf (x1 x2 : Int) (σ : St) : Int := σ 81 (107 + 8 * x1 + x2)
abbrev post_X7_elementOf (x1 x2 : Int) (σ : St) (r : Int) (σ' : St) : Prop := r = ans_X7_elementOf x1 x2 σ ∧ σ' = σ
def pre_X7_element (x1 x2 : Int) (σ : St) : Prop := inR x1 ∧ inR x2 ∧ ∀ r, 0 ≤ r → r < 6 → 0 ≤ σ 81 (101 + r) ∧ σ 81 (101 + r) ≤ 8
def ans_X7_element (x1 x2 : Int) (σ : St) : Int := if ¬ (0 ≤ x1 ∧ x1 < 6 ∧ 0 ≤ x2) then (-2) else (if x2 < σ 81 (101 + x1) then σ 81 (107 + 8 * x1 + x2) else -1)
def eff_X7_element (x1 x2 : Int) (σ : St) : St := if ¬ (0 ≤ x1 ∧ x1 < 6 ∧ 0 ≤ x2) then eff_X7_fail (-2) σ else σ
abbrev post_X7_element (x1 x2 : Int) (σ : St) (r : Int) (σ' : St) : Prop := r = ans_X7_element x1 x2 σ ∧ σ' = eff_X7_element x1 x2 σ
def pre_X7_cell (x0 x1 x2 : Int) (σ : St) : Prop := True
def ans_X7_cell (x0 x1 x2 : Int) (σ : St) : Int := 101 * (9 * x0 + x1) + x2
abbrev post_X7_cell (x0 x1 x2 : Int) (σ : St) (r : Int) (σ' : St) : Prop := r = ans_X7_cell x0 x1 x2 σ ∧ σ' = σ
def pre_X7_isOf (x1 x2 x3 : Int) (σ : St) : Prop := 0 ≤ x1 ∧ x1 ≤ 100 ∧ 0 ≤ σ 81 0 ∧ σ 81 0 ≤ 100 ∧ inR x2 ∧ inR x3 ∧ (x1 < σ 81 0 → inR (σ 81 (1 + x1)))
def ans_X7_isOf (x1 x2 x3 : Int) (σ : St) : Int := if x1 < σ 81 0 ∧ x2 ≤ σ 81 (1 + x1) ∧ σ 81 (1 + x1) ≤ x3 then 1 else 0
abbrev post_X7_isOf (x1 x2 x3 : Int) (σ : St) (r : Int) (σ' : St) : Prop := r = ans_X7_isOf x1 x2 x3 σ ∧ σ' = σ
def pre_X7_runEnd (x1 x2 x3 : Int) (σ : St) : Prop := 0 ≤ x1 ∧ x1 ≤ σ 81 0 ∧ gWF (mg (σ 81) 0) ∧ inR x2 ∧ inR x3
def ans_X7_runEnd (x1 x2 x3 : Int) (σ : St) : Int := RE (mg (σ 81) 0) x2 x3 x1
abbrev post_X7_runEnd (x1 x2 x3 : Int) (σ : St) (r : Int) (σ' : St) : Prop := r = ans_X7_runEnd x1 x2 x3 σ ∧ σ' = σ
def pre_X7_elementEnd (x1 x2 : Int) (σ : St) : Prop := 32 ≤ x1 ∧ x1 ≤ 126 ∧ 0 ≤ x2 ∧ x2 ≤ σ 81 0 ∧ gWF (mg (σ 81) 0)
def ans_X7_elementEnd (x1 x2 : Int) (σ : St) : Int := eE (mg (σ 81) 0) (mt σ) x1 x2
abbrev post_X7_elementEnd (x1 x2 : Int) (σ : St) (r : Int) (σ' : St) : Prop := r = ans_X7_elementEnd x1 x2 σ ∧ σ' = σ
def pre_X7_islandAt (x1 : Int) (σ : St) : Prop := 0 ≤ x1 ∧ x1 ≤ 100 ∧ M8 σ
def ans_X7_islandAt (x1 : Int) (σ : St) : Int := first (mt σ) x1
abbrev post_X7_islandAt (x1 : Int) (σ : St) (r : Int) (σ' : St) : Prop := r = ans_X7_islandAt x1 σ ∧ σ' = σ
def pre_X7_waterEnd (x1 x2 x3 : Int) (σ : St) : Prop := 0 ≤ x1 ∧ x1 < 6 ∧ 0 ≤ x2 ∧ x2 ≤ 7 ∧ 0 ≤ x3 ∧ x3 ≤ σ 81 0 ∧ gWF (mg (σ 81) 0) ∧ M8 σ
def ans_X7_waterEnd (x1 x2 x3 : Int) (σ : St) : Int := if mt σ x1 (x2 + 1) x3 ≠ -1 then mt σ x1 (x2 + 1) x3 else if first (mt σ) x3 ≠ -1 then mt σ x1 x2 (mt σ (first (mt σ) x3) 0 x3) else if x3 = gl (mg (σ 81) 0) ∨ gt (mg (σ 81) 0) x3 = gp (mg (σ 81) 0) x1 then -1 else mt σ x1 x2 (x3 + 1)
abbrev post_X7_waterEnd (x1 x2 x3 : Int) (σ : St) (r : Int) (σ' : St) : Prop := r = ans_X7_waterEnd x1 x2 x3 σ ∧ σ' = σ
def pre_X7_suffixEnd (x1 x2 x3 : Int) (σ : St) : Prop := 0 ≤ x1 ∧ x1 < 6 ∧ 0 ≤ x2 ∧ x2 ≤ σ 81 (101 + x1) ∧ 0 ≤ x3 ∧ x3 ≤ σ 81 0 ∧ gWF (mg (σ 81) 0) ∧ M8 σ
def ans_X7_suffixEnd (x1 x2 x3 : Int) (σ : St) : Int := rhs (mg (σ 81) 0) (mt σ) x1 x2 x3
abbrev post_X7_suffixEnd (x1 x2 x3 : Int) (σ : St) (r : Int) (σ' : St) : Prop := r = ans_X7_suffixEnd x1 x2 x3 σ ∧ σ' = σ
def pre_X7_findEnds (σ : St) : Prop := gWF (mg (σ 81) 0) ∧ M8 σ
def post_X7_findEnds (σ : St) (σ' : St) : Prop := M8 σ' ∧ (∀ q, q ≠ 85 → σ' q = σ q) ∧ Good (mg (σ 81) 0) (mt σ')
def pre_X7_matchEnd (x1 x2 : Int) (σ : St) : Prop := RP σ ∧ inR x1 ∧ inR x2
def post_X7_matchEnd (x1 x2 : Int) (σ : St) (r : Int) (σ' : St) : Prop := (¬ (0 ≤ x1 ∧ x1 < 6 ∧ 0 ≤ x2 ∧ x2 ≤ σ 81 0) → r = -2 ∧ σ' = eff_X7_fail (-2) σ) ∧ ((0 ≤ x1 ∧ x1 < 6 ∧ 0 ≤ x2 ∧ x2 ≤ σ 81 0) → (∀ q, q ≠ 85 → σ' q = σ q) ∧ M8 σ' ∧ r = ct σ x1 0 x2)
def pre_X7_addNode (x1 x2 x3 : Int) (σ : St) : Prop := 0 ≤ σ 80 12 ∧ σ 80 12 < 100
def eff_X7_addNode (x1 x2 x3 : Int) (σ : St) : St := adN σ x1 x2 x3
abbrev post_X7_addNode (x1 x2 x3 : Int) (σ : St) (σ' : St) : Prop := σ' = eff_X7_addNode x1 x2 x3 σ
def pre_X7_endOf (x1 : Int) (σ : St) : Prop := 0 ≤ x1 ∧ x1 < 100 ∧ 0 ≤ σ 86 x1 ∧ σ 86 x1 < 6 ∧ 0 ≤ σ 87 x1 ∧ σ 87 x1 ≤ 100
def ans_X7_endOf (x1 : Int) (σ : St) : Int := mt σ (σ 86 x1) 0 (σ 87 x1)
abbrev post_X7_endOf (x1 : Int) (σ : St) (r : Int) (σ' : St) : Prop := r = ans_X7_endOf x1 σ ∧ σ' = σ
def pre_X7_numberAt (x1 : Int) (σ : St) : Prop := 0 ≤ x1 ∧ x1 ≤ σ 81 0 ∧ gWF (mg (σ 81) 0)
def ans_X7_numberAt (x1 : Int) (σ : St) : Int := dec (mg (σ 81) 0) x1
abbrev post_X7_numberAt (x1 : Int) (σ : St) (r : Int) (σ' : St) : Prop := r = ans_X7_numberAt x1 σ ∧ σ' = σ
def pre_X7_followWater (x1 x2 x3 : Int) (σ : St) : Prop := 0 ≤ x1 ∧ x1 < 100 ∧ x1 < σ 80 12 ∧ 0 ≤ σ 86 x1 ∧ σ 86 x1 < 6 ∧ 0 ≤ x2 ∧ x2 < gs (mg (σ 81) 0) (σ 86 x1) ∧ ge (mg (σ 81) 0) (σ 86 x1) x2 = 126 ∧ 0 ≤ x3 ∧ x3 ≤ σ 81 0 ∧ ct σ (σ 86 x1) x2 x3 ≠ -1 ∧ MC σ ∧ (∀ k, σ 80 12 + csum (mg (σ 81) 0) (ct σ) (σ 86 x1) (x2, x3) k ≤ 100)
def post_X7_followWater (x1 x2 x3 : Int) (σ : St) (r : Int) (σ' : St) : Prop := ∃ m, MW (mg (σ 81) 0) (ct σ) σ x1 (σ 86 x1) (x2, x3) m σ' ∧ σ' 90 = xr (mg (σ 81) 0) (ct σ) (σ 86 x1) (x2, x3) (σ 90) (σ 80 12) (fun _ => -1) m ∧ tr (mg (σ 81) 0) (ct σ) (σ 86 x1) (x2, x3) m = (x2 + 1, r)
def pre_X7_follow (x1 : Int) (σ : St) : Prop := 0 ≤ x1 ∧ x1 < 100 ∧ x1 < σ 80 12 ∧ 0 ≤ σ 86 x1 ∧ σ 86 x1 < 6 ∧ 0 ≤ σ 87 x1 ∧ σ 87 x1 ≤ σ 81 0 ∧ ct σ (σ 86 x1) 0 (σ 87 x1) ≠ -1 ∧ σ 90 x1 = -1 ∧ MC σ ∧ (∀ k, σ 80 12 + csum (mg (σ 81) 0) (ct σ) (σ 86 x1) (0, σ 87 x1) k ≤ 100)
def post_X7_follow (x1 : Int) (σ : St) (σ' : St) : Prop := ∃ m v, MW (mg (σ 81) 0) (ct σ) σ x1 (σ 86 x1) (0, σ 87 x1) m σ' ∧ gs (mg (σ 81) 0) (σ 86 x1) ≤ (tr (mg (σ 81) 0) (ct σ) (σ 86 x1) (0, σ 87 x1) m).1 ∧ isN (mg (σ 81) 0) (ct σ) (σ 86 x1) (σ 87 x1) v ∧ σ' 90 = ui (xr (mg (σ 81) 0) (ct σ) (σ 86 x1) (0, σ 87 x1) (σ 90) (σ 80 12) (fun _ => -1) m) x1 v
def pre_X7_parse (σ : St) : Prop := RP σ
def post_X7_parse (σ : St) (σ' : St) : Prop := PP σ σ'
def pre_X7_numberOf (x1 : Int) (σ : St) : Prop := QP σ ∧ 0 ≤ x1 ∧ x1 < σ 80 12
def post_X7_numberOf (x1 : Int) (σ : St) (r : Int) (σ' : St) : Prop := σ' = σ ∧ atN σ x1 r
def pre_X7_foundOf (x1 : Int) (σ : St) : Prop := QP σ ∧ 0 ≤ x1 ∧ x1 < σ 61 11
def post_X7_foundOf (x1 : Int) (σ : St) (r : Int) (σ' : St) : Prop := σ' = σ ∧ atN σ r x1
def pre_X7_depthOf (x1 : Int) (σ : St) : Prop := QP σ ∧ 0 ≤ x1 ∧ x1 < σ 80 12
def post_X7_depthOf (x1 : Int) (σ : St) (r : Int) (σ' : St) : Prop := σ' = σ ∧ ∀ j, atN σ x1 j → r = σ 71 j
def pre_X7_parentOf (x1 : Int) (σ : St) : Prop := QP σ ∧ 0 ≤ x1 ∧ x1 < σ 80 12
def post_X7_parentOf (x1 : Int) (σ : St) (r : Int) (σ' : St) : Prop := σ' = σ ∧ ∀ j, atN σ x1 j → r = σ 69 j
def pre_X7_askNode (x1 x2 : Int) (σ : St) : Prop := RP σ ∧ inR x1 ∧ 0 ≤ x2 ∧ x2 ≤ 6
def post_X7_askNode (x1 x2 : Int) (σ : St) (r : Int) (σ' : St) : Prop := ∃ s, PP σ s ∧ (¬ (0 ≤ x1 ∧ x1 < s 61 11) → r = -2 ∧ σ' = eff_X7_fail (-2) s) ∧ ((0 ≤ x1 ∧ x1 < s 61 11) → σ' = s ∧ (x2 = 0 → r = s 63 x1) ∧ (x2 = 1 → r = s 65 x1) ∧ (x2 = 2 → r = s 67 x1) ∧ (x2 = 3 → r = s 69 x1) ∧ (x2 = 4 → r = s 71 x1) ∧ (x2 = 5 → r = s 73 x1) ∧ (x2 = 6 → r = s 75 x1))
def pre_X7_nodeCount (σ : St) : Prop := RP σ
def post_X7_nodeCount (σ : St) (r : Int) (σ' : St) : Prop := PP σ σ' ∧ r = σ' 61 11
def pre_X7_islandCount (σ : St) : Prop := RP σ
def post_X7_islandCount (σ : St) (r : Int) (σ' : St) : Prop := PP σ σ' ∧ r = σ' 61 12
def pre_X7_nodeRule (x1 : Int) (σ : St) : Prop := RP σ ∧ inR x1
def post_X7_nodeRule (x1 : Int) (σ : St) (r : Int) (σ' : St) : Prop := ∃ s, PP σ s ∧ ((0 ≤ x1 ∧ x1 < s 61 11) → r = s 63 x1 ∧ σ' = s) ∧ (¬ (0 ≤ x1 ∧ x1 < s 61 11) → r = -2 ∧ σ' = eff_X7_fail (-2) s)
def pre_X7_nodeStart (x1 : Int) (σ : St) : Prop := RP σ ∧ inR x1
def post_X7_nodeStart (x1 : Int) (σ : St) (r : Int) (σ' : St) : Prop := ∃ s, PP σ s ∧ ((0 ≤ x1 ∧ x1 < s 61 11) → r = s 65 x1 ∧ σ' = s) ∧ (¬ (0 ≤ x1 ∧ x1 < s 61 11) → r = -2 ∧ σ' = eff_X7_fail (-2) s)
def pre_X7_nodeEnd (x1 : Int) (σ : St) : Prop := RP σ ∧ inR x1
def post_X7_nodeEnd (x1 : Int) (σ : St) (r : Int) (σ' : St) : Prop := ∃ s, PP σ s ∧ ((0 ≤ x1 ∧ x1 < s 61 11) → r = s 67 x1 ∧ σ' = s) ∧ (¬ (0 ≤ x1 ∧ x1 < s 61 11) → r = -2 ∧ σ' = eff_X7_fail (-2) s)
def pre_X7_nodeParent (x1 : Int) (σ : St) : Prop := RP σ ∧ inR x1
def post_X7_nodeParent (x1 : Int) (σ : St) (r : Int) (σ' : St) : Prop := ∃ s, PP σ s ∧ ((0 ≤ x1 ∧ x1 < s 61 11) → r = s 69 x1 ∧ σ' = s) ∧ (¬ (0 ≤ x1 ∧ x1 < s 61 11) → r = -2 ∧ σ' = eff_X7_fail (-2) s)
def pre_X7_nodeDepth (x1 : Int) (σ : St) : Prop := RP σ ∧ inR x1
def post_X7_nodeDepth (x1 : Int) (σ : St) (r : Int) (σ' : St) : Prop := ∃ s, PP σ s ∧ ((0 ≤ x1 ∧ x1 < s 61 11) → r = s 71 x1 ∧ σ' = s) ∧ (¬ (0 ≤ x1 ∧ x1 < s 61 11) → r = -2 ∧ σ' = eff_X7_fail (-2) s)
def pre_X7_nodeWater (x1 : Int) (σ : St) : Prop := RP σ ∧ inR x1
def post_X7_nodeWater (x1 : Int) (σ : St) (r : Int) (σ' : St) : Prop := ∃ s, PP σ s ∧ ((0 ≤ x1 ∧ x1 < s 61 11) → r = s 73 x1 ∧ σ' = s) ∧ (¬ (0 ≤ x1 ∧ x1 < s 61 11) → r = -2 ∧ σ' = eff_X7_fail (-2) s)
def pre_X7_nodeNumber (x1 : Int) (σ : St) : Prop := RP σ ∧ inR x1
def post_X7_nodeNumber (x1 : Int) (σ : St) (r : Int) (σ' : St) : Prop := ∃ s, PP σ s ∧ ((0 ≤ x1 ∧ x1 < s 61 11) → r = s 75 x1 ∧ σ' = s) ∧ (¬ (0 ≤ x1 ∧ x1 < s 61 11) → r = -2 ∧ σ' = eff_X7_fail (-2) s)
def pre_X7_nodeAt (x1 : Int) (σ : St) : Prop := RP σ ∧ inR x1
def post_X7_nodeAt (x1 : Int) (σ : St) (r : Int) (σ' : St) : Prop := (¬ (0 ≤ x1 ∧ x1 < σ 81 0) → r = -2 ∧ σ' = eff_X7_fail (-2) σ) ∧ ((0 ≤ x1 ∧ x1 < σ 81 0) → PP σ σ' ∧ r = inn σ' x1 (σ' 61 11).toNat)
def pre_X7_waterLength (σ : St) : Prop := RP σ
def post_X7_waterLength (σ : St) (r : Int) (σ' : St) : Prop := PP σ σ' ∧ r = σ' 61 13
def pre_X7_longestWater (σ : St) : Prop := RP σ
def post_X7_longestWater (σ : St) (r : Int) (σ' : St) : Prop := PP σ σ' ∧ r = σ' 61 15
def pre_X7_countOf (x1 : Int) (σ : St) : Prop := RP σ ∧ inR x1
def post_X7_countOf (x1 : Int) (σ : St) (r : Int) (σ' : St) : Prop := (¬ (0 ≤ x1 ∧ x1 < 6) → r = -2 ∧ σ' = eff_X7_fail (-2) σ) ∧ ((0 ≤ x1 ∧ x1 < 6) → PP σ σ' ∧ r = cntr σ' x1 (σ' 61 11).toNat)
def pre_X7_undo (σ : St) : Prop := 0 ≤ σ 80 2 ∧ σ 80 2 ≤ 4
def ans_X7_undo (σ : St) : Int := if σ 80 2 = 0 then (-3) else σ 80 2 - 1
def eff_X7_undo (σ : St) : St := if σ 80 2 = 0 then eff_X7_fail (-3) σ else ur (up σ 80 2 (σ 80 2 - 1)) 81 (fun j => if 0 ≤ j ∧ j < 161 then σ 82 (161 * (σ 80 2 - 1) + j) else σ 81 j)
abbrev post_X7_undo (σ : St) (r : Int) (σ' : St) : Prop := r = ans_X7_undo σ ∧ σ' = eff_X7_undo σ
def pre_X7_errorCount (x1 : Int) (σ : St) : Prop := inR x1
def ans_X7_errorCount (x1 : Int) (σ : St) : Int := if 0 ≤ x1 ∧ x1 < 3 then σ 84 x1 else (-2)
def eff_X7_errorCount (x1 : Int) (σ : St) : St := if 0 ≤ x1 ∧ x1 < 3 then σ else eff_X7_fail (-2) σ
abbrev post_X7_errorCount (x1 : Int) (σ : St) (r : Int) (σ' : St) : Prop := r = ans_X7_errorCount x1 σ ∧ σ' = eff_X7_errorCount x1 σ
def pre_X7_mix (x1 : Int) (σ : St) : Prop := inR x1
def eff_X7_mix (x1 : Int) (σ : St) : St := up σ 80 16 (31 * σ 80 16 + x1)
abbrev post_X7_mix (x1 : Int) (σ : St) (σ' : St) : Prop := σ' = eff_X7_mix x1 σ
def pre_X7_mixRules (σ : St) : Prop := gWF (mg (σ 81) 0)
def eff_X7_mixRules (σ : St) : St := up σ 80 16 (mixR (fun r => σ 81 (101 + r)) (fun r i => σ 81 (107 + 8 * r + i)) (fun r => σ 81 (155 + r)) (σ 80 16) 6)
abbrev post_X7_mixRules (σ : St) (σ' : St) : Prop := σ' = eff_X7_mixRules σ
def pre_X7_digest (σ : St) : Prop := RP σ ∧ inR (σ 80 4) ∧ inR (σ 80 2) ∧ (∀ j, 0 ≤ j → j < 3 → inR (σ 84 j))
def post_X7_digest (σ : St) (r : Int) (σ' : St) : Prop := ∃ s, PP σ s ∧ σ' = up s 80 16 r ∧ r = 31 * (31 * mixN s (31 * mixR (fun r => σ 81 (101 + r)) (fun r i => σ 81 (107 + 8 * r + i)) (fun r => σ 81 (155 + r)) (mixr (fun k => σ 81 (1 + k)) (31 * (31 * (31 * mixr (σ 84) 17305 3 + σ 80 4) + σ 80 2) + σ 81 0) (σ 81 0).toNat) 6 + s 61 11) (s 61 11).toNat + s 61 13) + s 61 15
