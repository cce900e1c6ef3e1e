/-! THE BEGINNING: all is 0, but the script -/
def st0 (L : Nat) (xs : Nat → Int32) : am_S := fun k i => bif Nat.beq k 60 then (if i = -1 then (L : Int) else (xs i.toNat).toInt) else 0
theorem st0_z (L : Nat) (xs : Nat → Int32) {k : Nat} (h : k ≠ 60) (i : Int) : st0 L xs k i = 0 := by
  have e : Nat.beq k 60 = false := by
    cases q : Nat.beq k 60
    · rfl
    · exact absurd (Nat.eq_of_beq_eq_true q) h
  unfold st0
  rw [e]
  rfl
theorem st0_Mok (L : Nat) (xs : Nat → Int32) : Mok (st0 L xs) := by
  have z := fun (k : Nat) (h : k ≠ 60) (i : Int) => st0_z L xs h i
  refine ⟨⟨?_, fun a a0 an => ?_, ?_, fun k k0 k1 => ?_⟩, fun k _ _ => Or.inl (z 8 (by decide) k)⟩
  · show 0 ≤ st0 L xs 0 0 ∧ st0 L xs 0 0 ≤ 8
    rw [z 0 (by decide)]
    decide
  · have an : a < st0 L xs 0 0 := an
    rw [z 0 (by decide)] at an
    omega
  · show 0 ≤ st0 L xs 0 3 ∧ st0 L xs 0 3 ≤ 10
    rw [z 0 (by decide)]
    decide
  · have k1 : k < st0 L xs 0 3 := k1
    rw [z 0 (by decide)] at k1
    omega
theorem st0_fmk (L : Nat) (xs : Nat → Int32) : fmk (st0 L xs) = 0 := by
  unfold fmk
  rw [st0_z L xs (by decide : (0 : Nat) ≠ 60) 3]
  show mk _ 0 = 0
  unfold mk
  rfl
theorem st0_Cpl (L : Nat) (xs : Nat → Int32) : Cpl (st0 L xs) := by
  have z := fun (k : Nat) (h : k ≠ 60) (i : Int) => st0_z L xs h i
  unfold Cpl
  rw [st0_fmk, z 17 (by decide), z 0 (by decide), z 20 (by decide), z 0 (by decide), z 20 (by decide)]
  exact ⟨rfl, rfl, fun a a0 an => absurd an (by omega), fun k k0 k1 => absurd k1 (by omega), rfl⟩
theorem st0_Inv (L : Nat) (xs : Nat → Int32) : Inv (st0 L xs) := by
  have z := fun (k : Nat) (h : k ≠ 60) (i : Int) => st0_z L xs h i
  refine ⟨⟨st0_Mok L xs, fun k k0 k1 => ?_, st0_Cpl L xs⟩, ⟨Or.inl (z 26 (by decide) 0), Or.inl (z 41 (by decide) 0)⟩, fun _ => [], fun b _ _ => ⟨⟨z 14 (by decide) b, fun p hp => absurd hp (Nat.not_lt_zero _)⟩, Nat.zero_le _⟩, fun b b0 b3 => ⟨⟨z (tB b) (by unfold tB; omega) 0, fun p hp => absurd hp (Nat.not_lt_zero _)⟩, Nat.zero_le _⟩, fun b _ _ => ⟨List.nodup_nil, fun a h => absurd h List.not_mem_nil⟩⟩
  rw [z 0 (by decide)] at k1
  omega
def ct_adr (b7 : Nat) (u7 : Nat → Nat) (b8 : Nat) (u8 : Nat → Nat) (b : Nat) : Nat → Nat := fun k => bif Nat.blt k 16 then (bif Nat.beq k 0 then b8 else u8 (k - 1)) else (bif Nat.beq k 16 then b7 else (bif Nat.blt k 60 then u7 (k - 17) else b))
abbrev ct_G (D : va_G) (cI cZ cB : ClassId) (b7 : Nat) (u7 : Nat → Nat) (b8 : Nat) (u8 : Nat → Nat) (b : Nat) : am_G := (D, ct_adr b7 u7 b8 u8 b, cI, cZ, cB)
def ct_pos (k : Nat) : Nat := bif Nat.blt k 16 then k + 44 else k - 16
theorem ct_pos_inj {i j : Nat} (hi : i < 60) (hj : j < 60) (h : ct_pos i = ct_pos j) : i = j := by
  unfold ct_pos at h
  cases h1 : Nat.blt i 16 <;> cases h2 : Nat.blt j 16 <;> rw [h1, h2] at h <;> simp only [cond_true, cond_false] at h
  · have q1 : ¬ i < 16 := fun q => by rw [Nat.blt_eq.mpr q] at h1; cases h1
    have q2 : ¬ j < 16 := fun q => by rw [Nat.blt_eq.mpr q] at h2; cases h2
    omega
  · have q1 : ¬ i < 16 := fun q => by rw [Nat.blt_eq.mpr q] at h1; cases h1
    have q2 := Nat.blt_eq.mp h2
    omega
  · have q1 := Nat.blt_eq.mp h1
    have q2 : ¬ j < 16 := fun q => by rw [Nat.blt_eq.mpr q] at h2; cases h2
    omega
  · omega
theorem ct_bf (g : Nat → Nat) : va_up (va_up (va_up (fun _ => none) 0 (some (g 54))) 1 (some (g 56))) 2 (some (g 58)) = fun j : Nat => ((([some 54, some 56, some 58] : List (Option Nat))[j]?).getD none).map g := by
  funext j
  match j with
  | 0 => rfl
  | 1 => rfl
  | 2 => rfl
  | n + 3 => simp [va_up]
section
variable (D : va_G) (cI cZ cB : ClassId) (b7 : Nat) (u7 : Nat → Nat) (b8 : Nat) (u8 : Nat → Nat) (b L : Nat) (xs : Nat → Int32)
theorem ct_at_0 : (wX7 cI cZ cB b7 u7 ++ wX8 cI cZ cB b8 u8)[44]? = some (ct_adr b7 u7 b8 u8 b 0, am_cell (ct_G D cI cZ cB b7 u7 b8 u8 b) (st0 L xs 0) (0, 8, [none, some 1, some 2, none, some 3, some 4, some 5, some 6, some 7, some 8, some 9, some 10, none, some 11, some 12, some 13, some 14, some 15])) := rfl
theorem ct_at_1 : (wX7 cI cZ cB b7 u7 ++ wX8 cI cZ cB b8 u8)[45]? = some (ct_adr b7 u7 b8 u8 b 1, am_cell (ct_G D cI cZ cB b7 u7 b8 u8 b) (st0 L xs 1) (1, 8, [])) := rfl
theorem ct_at_2 : (wX7 cI cZ cB b7 u7 ++ wX8 cI cZ cB b8 u8)[46]? = some (ct_adr b7 u7 b8 u8 b 2, am_cell (ct_G D cI cZ cB b7 u7 b8 u8 b) (st0 L xs 2) (1, 8, [])) := rfl
theorem ct_at_3 : (wX7 cI cZ cB b7 u7 ++ wX8 cI cZ cB b8 u8)[47]? = some (ct_adr b7 u7 b8 u8 b 3, am_cell (ct_G D cI cZ cB b7 u7 b8 u8 b) (st0 L xs 3) (1, 10, [])) := rfl
theorem ct_at_4 : (wX7 cI cZ cB b7 u7 ++ wX8 cI cZ cB b8 u8)[48]? = some (ct_adr b7 u7 b8 u8 b 4, am_cell (ct_G D cI cZ cB b7 u7 b8 u8 b) (st0 L xs 4) (1, 10, [])) := rfl
theorem ct_at_5 : (wX7 cI cZ cB b7 u7 ++ wX8 cI cZ cB b8 u8)[49]? = some (ct_adr b7 u7 b8 u8 b 5, am_cell (ct_G D cI cZ cB b7 u7 b8 u8 b) (st0 L xs 5) (1, 10, [])) := rfl
theorem ct_at_6 : (wX7 cI cZ cB b7 u7 ++ wX8 cI cZ cB b8 u8)[50]? = some (ct_adr b7 u7 b8 u8 b 6, am_cell (ct_G D cI cZ cB b7 u7 b8 u8 b) (st0 L xs 6) (1, 10, [])) := rfl
theorem ct_at_7 : (wX7 cI cZ cB b7 u7 ++ wX8 cI cZ cB b8 u8)[51]? = some (ct_adr b7 u7 b8 u8 b 7, am_cell (ct_G D cI cZ cB b7 u7 b8 u8 b) (st0 L xs 7) (1, 10, [])) := rfl
theorem ct_at_8 : (wX7 cI cZ cB b7 u7 ++ wX8 cI cZ cB b8 u8)[52]? = some (ct_adr b7 u7 b8 u8 b 8, am_cell (ct_G D cI cZ cB b7 u7 b8 u8 b) (st0 L xs 8) (2, 10, [])) := rfl
theorem ct_at_9 : (wX7 cI cZ cB b7 u7 ++ wX8 cI cZ cB b8 u8)[53]? = some (ct_adr b7 u7 b8 u8 b 9, am_cell (ct_G D cI cZ cB b7 u7 b8 u8 b) (st0 L xs 9) (1, 81, [])) := rfl
theorem ct_at_10 : (wX7 cI cZ cB b7 u7 ++ wX8 cI cZ cB b8 u8)[54]? = some (ct_adr b7 u7 b8 u8 b 10, am_cell (ct_G D cI cZ cB b7 u7 b8 u8 b) (st0 L xs 10) (1, 9, [])) := rfl
theorem ct_at_11 : (wX7 cI cZ cB b7 u7 ++ wX8 cI cZ cB b8 u8)[55]? = some (ct_adr b7 u7 b8 u8 b 11, am_cell (ct_G D cI cZ cB b7 u7 b8 u8 b) (st0 L xs 11) (1, 8, [])) := rfl
theorem ct_at_12 : (wX7 cI cZ cB b7 u7 ++ wX8 cI cZ cB b8 u8)[56]? = some (ct_adr b7 u7 b8 u8 b 12, am_cell (ct_G D cI cZ cB b7 u7 b8 u8 b) (st0 L xs 12) (1, 8, [])) := rfl
theorem ct_at_13 : (wX7 cI cZ cB b7 u7 ++ wX8 cI cZ cB b8 u8)[57]? = some (ct_adr b7 u7 b8 u8 b 13, am_cell (ct_G D cI cZ cB b7 u7 b8 u8 b) (st0 L xs 13) (1, 256, [])) := rfl
theorem ct_at_14 : (wX7 cI cZ cB b7 u7 ++ wX8 cI cZ cB b8 u8)[58]? = some (ct_adr b7 u7 b8 u8 b 14, am_cell (ct_G D cI cZ cB b7 u7 b8 u8 b) (st0 L xs 14) (1, 3, [])) := rfl
theorem ct_at_15 : (wX7 cI cZ cB b7 u7 ++ wX8 cI cZ cB b8 u8)[59]? = some (ct_adr b7 u7 b8 u8 b 15, am_cell (ct_G D cI cZ cB b7 u7 b8 u8 b) (st0 L xs 15) (1, 24, [])) := rfl
theorem ct_at_16 : (wX7 cI cZ cB b7 u7 ++ wX8 cI cZ cB b8 u8)[0]? = some (ct_adr b7 u7 b8 u8 b 16, am_cell (ct_G D cI cZ cB b7 u7 b8 u8 b) (st0 L xs 16) (0, 7, [some 17, some 20, some 26, some 41, some 50, some 53])) := rfl
theorem ct_at_17 : (wX7 cI cZ cB b7 u7 ++ wX8 cI cZ cB b8 u8)[1]? = some (ct_adr b7 u7 b8 u8 b 17, am_cell (ct_G D cI cZ cB b7 u7 b8 u8 b) (st0 L xs 17) (0, 2, [none, some 18, some 19])) := rfl
theorem ct_at_18 : (wX7 cI cZ cB b7 u7 ++ wX8 cI cZ cB b8 u8)[2]? = some (ct_adr b7 u7 b8 u8 b 18, am_cell (ct_G D cI cZ cB b7 u7 b8 u8 b) (st0 L xs 18) (1, 8, [])) := rfl
theorem ct_at_19 : (wX7 cI cZ cB b7 u7 ++ wX8 cI cZ cB b8 u8)[3]? = some (ct_adr b7 u7 b8 u8 b 19, am_cell (ct_G D cI cZ cB b7 u7 b8 u8 b) (st0 L xs 19) (1, 8, [])) := rfl
theorem ct_at_20 : (wX7 cI cZ cB b7 u7 ++ wX8 cI cZ cB b8 u8)[4]? = some (ct_adr b7 u7 b8 u8 b 20, am_cell (ct_G D cI cZ cB b7 u7 b8 u8 b) (st0 L xs 20) (0, 3, [none, none, some 21, some 22, some 23, some 24, some 25])) := rfl
theorem ct_at_21 : (wX7 cI cZ cB b7 u7 ++ wX8 cI cZ cB b8 u8)[5]? = some (ct_adr b7 u7 b8 u8 b 21, am_cell (ct_G D cI cZ cB b7 u7 b8 u8 b) (st0 L xs 21) (1, 10, [])) := rfl
theorem ct_at_22 : (wX7 cI cZ cB b7 u7 ++ wX8 cI cZ cB b8 u8)[6]? = some (ct_adr b7 u7 b8 u8 b 22, am_cell (ct_G D cI cZ cB b7 u7 b8 u8 b) (st0 L xs 22) (1, 10, [])) := rfl
theorem ct_at_23 : (wX7 cI cZ cB b7 u7 ++ wX8 cI cZ cB b8 u8)[7]? = some (ct_adr b7 u7 b8 u8 b 23, am_cell (ct_G D cI cZ cB b7 u7 b8 u8 b) (st0 L xs 23) (1, 10, [])) := rfl
theorem ct_at_24 : (wX7 cI cZ cB b7 u7 ++ wX8 cI cZ cB b8 u8)[8]? = some (ct_adr b7 u7 b8 u8 b 24, am_cell (ct_G D cI cZ cB b7 u7 b8 u8 b) (st0 L xs 24) (1, 10, [])) := rfl
theorem ct_at_25 : (wX7 cI cZ cB b7 u7 ++ wX8 cI cZ cB b8 u8)[9]? = some (ct_adr b7 u7 b8 u8 b 25, am_cell (ct_G D cI cZ cB b7 u7 b8 u8 b) (st0 L xs 25) (1, 10, [])) := rfl
theorem ct_at_26 : (wX7 cI cZ cB b7 u7 ++ wX8 cI cZ cB b8 u8)[10]? = some (ct_adr b7 u7 b8 u8 b 26, am_cell (ct_G D cI cZ cB b7 u7 b8 u8 b) (st0 L xs 26) (0, 5, [none, some 27, some 28, some 17, some 20, some 34, none, none, some 29, some 30, some 31, some 32, some 33])) := rfl
theorem ct_at_27 : (wX7 cI cZ cB b7 u7 ++ wX8 cI cZ cB b8 u8)[11]? = some (ct_adr b7 u7 b8 u8 b 27, am_cell (ct_G D cI cZ cB b7 u7 b8 u8 b) (st0 L xs 27) (1, 8, [])) := rfl
theorem ct_at_28 : (wX7 cI cZ cB b7 u7 ++ wX8 cI cZ cB b8 u8)[12]? = some (ct_adr b7 u7 b8 u8 b 28, am_cell (ct_G D cI cZ cB b7 u7 b8 u8 b) (st0 L xs 28) (1, 8, [])) := rfl
theorem ct_at_29 : (wX7 cI cZ cB b7 u7 ++ wX8 cI cZ cB b8 u8)[13]? = some (ct_adr b7 u7 b8 u8 b 29, am_cell (ct_G D cI cZ cB b7 u7 b8 u8 b) (st0 L xs 29) (1, 8, [])) := rfl
theorem ct_at_30 : (wX7 cI cZ cB b7 u7 ++ wX8 cI cZ cB b8 u8)[14]? = some (ct_adr b7 u7 b8 u8 b 30, am_cell (ct_G D cI cZ cB b7 u7 b8 u8 b) (st0 L xs 30) (1, 1600, [])) := rfl
theorem ct_at_31 : (wX7 cI cZ cB b7 u7 ++ wX8 cI cZ cB b8 u8)[15]? = some (ct_adr b7 u7 b8 u8 b 31, am_cell (ct_G D cI cZ cB b7 u7 b8 u8 b) (st0 L xs 31) (1, 8, [])) := rfl
theorem ct_at_32 : (wX7 cI cZ cB b7 u7 ++ wX8 cI cZ cB b8 u8)[16]? = some (ct_adr b7 u7 b8 u8 b 32, am_cell (ct_G D cI cZ cB b7 u7 b8 u8 b) (st0 L xs 32) (1, 64, [])) := rfl
theorem ct_at_33 : (wX7 cI cZ cB b7 u7 ++ wX8 cI cZ cB b8 u8)[17]? = some (ct_adr b7 u7 b8 u8 b 33, am_cell (ct_G D cI cZ cB b7 u7 b8 u8 b) (st0 L xs 33) (1, 8, [])) := rfl
theorem ct_at_34 : (wX7 cI cZ cB b7 u7 ++ wX8 cI cZ cB b8 u8)[18]? = some (ct_adr b7 u7 b8 u8 b 34, am_cell (ct_G D cI cZ cB b7 u7 b8 u8 b) (st0 L xs 34) (0, 6, [none, none, some 35, some 36, some 37, none, some 38, some 39, some 40])) := rfl
theorem ct_at_35 : (wX7 cI cZ cB b7 u7 ++ wX8 cI cZ cB b8 u8)[19]? = some (ct_adr b7 u7 b8 u8 b 35, am_cell (ct_G D cI cZ cB b7 u7 b8 u8 b) (st0 L xs 35) (1, 8, [])) := rfl
theorem ct_at_36 : (wX7 cI cZ cB b7 u7 ++ wX8 cI cZ cB b8 u8)[20]? = some (ct_adr b7 u7 b8 u8 b 36, am_cell (ct_G D cI cZ cB b7 u7 b8 u8 b) (st0 L xs 36) (1, 8, [])) := rfl
theorem ct_at_37 : (wX7 cI cZ cB b7 u7 ++ wX8 cI cZ cB b8 u8)[21]? = some (ct_adr b7 u7 b8 u8 b 37, am_cell (ct_G D cI cZ cB b7 u7 b8 u8 b) (st0 L xs 37) (1, 8, [])) := rfl
theorem ct_at_38 : (wX7 cI cZ cB b7 u7 ++ wX8 cI cZ cB b8 u8)[22]? = some (ct_adr b7 u7 b8 u8 b 38, am_cell (ct_G D cI cZ cB b7 u7 b8 u8 b) (st0 L xs 38) (1, 20, [])) := rfl
theorem ct_at_39 : (wX7 cI cZ cB b7 u7 ++ wX8 cI cZ cB b8 u8)[23]? = some (ct_adr b7 u7 b8 u8 b 39, am_cell (ct_G D cI cZ cB b7 u7 b8 u8 b) (st0 L xs 39) (1, 20, [])) := rfl
theorem ct_at_40 : (wX7 cI cZ cB b7 u7 ++ wX8 cI cZ cB b8 u8)[24]? = some (ct_adr b7 u7 b8 u8 b 40, am_cell (ct_G D cI cZ cB b7 u7 b8 u8 b) (st0 L xs 40) (1, 20, [])) := rfl
theorem ct_at_41 : (wX7 cI cZ cB b7 u7 ++ wX8 cI cZ cB b8 u8)[25]? = some (ct_adr b7 u7 b8 u8 b 41, am_cell (ct_G D cI cZ cB b7 u7 b8 u8 b) (st0 L xs 41) (0, 1, [none, some 17, some 20, some 43, some 42, none, none, none, none])) := rfl
theorem ct_at_42 : (wX7 cI cZ cB b7 u7 ++ wX8 cI cZ cB b8 u8)[26]? = some (ct_adr b7 u7 b8 u8 b 42, am_cell (ct_G D cI cZ cB b7 u7 b8 u8 b) (st0 L xs 42) (1, 8, [])) := rfl
theorem ct_at_43 : (wX7 cI cZ cB b7 u7 ++ wX8 cI cZ cB b8 u8)[27]? = some (ct_adr b7 u7 b8 u8 b 43, am_cell (ct_G D cI cZ cB b7 u7 b8 u8 b) (st0 L xs 43) (0, 6, [none, none, some 44, some 45, some 46, none, some 47, some 48, some 49])) := rfl
theorem ct_at_44 : (wX7 cI cZ cB b7 u7 ++ wX8 cI cZ cB b8 u8)[28]? = some (ct_adr b7 u7 b8 u8 b 44, am_cell (ct_G D cI cZ cB b7 u7 b8 u8 b) (st0 L xs 44) (1, 8, [])) := rfl
theorem ct_at_45 : (wX7 cI cZ cB b7 u7 ++ wX8 cI cZ cB b8 u8)[29]? = some (ct_adr b7 u7 b8 u8 b 45, am_cell (ct_G D cI cZ cB b7 u7 b8 u8 b) (st0 L xs 45) (1, 8, [])) := rfl
theorem ct_at_46 : (wX7 cI cZ cB b7 u7 ++ wX8 cI cZ cB b8 u8)[30]? = some (ct_adr b7 u7 b8 u8 b 46, am_cell (ct_G D cI cZ cB b7 u7 b8 u8 b) (st0 L xs 46) (1, 8, [])) := rfl
theorem ct_at_47 : (wX7 cI cZ cB b7 u7 ++ wX8 cI cZ cB b8 u8)[31]? = some (ct_adr b7 u7 b8 u8 b 47, am_cell (ct_G D cI cZ cB b7 u7 b8 u8 b) (st0 L xs 47) (1, 20, [])) := rfl
theorem ct_at_48 : (wX7 cI cZ cB b7 u7 ++ wX8 cI cZ cB b8 u8)[32]? = some (ct_adr b7 u7 b8 u8 b 48, am_cell (ct_G D cI cZ cB b7 u7 b8 u8 b) (st0 L xs 48) (1, 20, [])) := rfl
theorem ct_at_49 : (wX7 cI cZ cB b7 u7 ++ wX8 cI cZ cB b8 u8)[33]? = some (ct_adr b7 u7 b8 u8 b 49, am_cell (ct_G D cI cZ cB b7 u7 b8 u8 b) (st0 L xs 49) (1, 20, [])) := rfl
theorem ct_at_50 : (wX7 cI cZ cB b7 u7 ++ wX8 cI cZ cB b8 u8)[34]? = some (ct_adr b7 u7 b8 u8 b 50, am_cell (ct_G D cI cZ cB b7 u7 b8 u8 b) (st0 L xs 50) (0, 4, [none, some 51, some 52])) := rfl
theorem ct_at_51 : (wX7 cI cZ cB b7 u7 ++ wX8 cI cZ cB b8 u8)[35]? = some (ct_adr b7 u7 b8 u8 b 51, am_cell (ct_G D cI cZ cB b7 u7 b8 u8 b) (st0 L xs 51) (1, 8, [])) := rfl
theorem ct_at_52 : (wX7 cI cZ cB b7 u7 ++ wX8 cI cZ cB b8 u8)[36]? = some (ct_adr b7 u7 b8 u8 b 52, am_cell (ct_G D cI cZ cB b7 u7 b8 u8 b) (st0 L xs 52) (1, 256, [])) := rfl
theorem ct_at_53 : (wX7 cI cZ cB b7 u7 ++ wX8 cI cZ cB b8 u8)[37]? = some (ct_adr b7 u7 b8 u8 b 53, am_cell (ct_G D cI cZ cB b7 u7 b8 u8 b) (st0 L xs 53) (3, 3, [some 54, some 56, some 58])) := by
  have e : am_cell (ct_G D cI cZ cB b7 u7 b8 u8 b) (st0 L xs 53) (3, 3, [some 54, some 56, some 58]) = .inl (cB, 3, .inr (.inr (.inr (.inr (va_up (va_up (va_up (fun _ => none) 0 (some (u7 37))) 1 (some (u7 39))) 2 (some (u7 41))))))) := by
    have e1 := ct_bf (ct_adr b7 u7 b8 u8 b)
    exact congrArg (fun f => (.inl (cB, 3, .inr (.inr (.inr (.inr f)))) : va_E)) e1.symm
  rw [e]
  rfl
theorem ct_at_54 : (wX7 cI cZ cB b7 u7 ++ wX8 cI cZ cB b8 u8)[38]? = some (ct_adr b7 u7 b8 u8 b 54, am_cell (ct_G D cI cZ cB b7 u7 b8 u8 b) (st0 L xs 54) (0, 0, [none, some 55])) := rfl
theorem ct_at_55 : (wX7 cI cZ cB b7 u7 ++ wX8 cI cZ cB b8 u8)[39]? = some (ct_adr b7 u7 b8 u8 b 55, am_cell (ct_G D cI cZ cB b7 u7 b8 u8 b) (st0 L xs 55) (1, 8, [])) := rfl
theorem ct_at_56 : (wX7 cI cZ cB b7 u7 ++ wX8 cI cZ cB b8 u8)[40]? = some (ct_adr b7 u7 b8 u8 b 56, am_cell (ct_G D cI cZ cB b7 u7 b8 u8 b) (st0 L xs 56) (0, 0, [none, some 57])) := rfl
theorem ct_at_57 : (wX7 cI cZ cB b7 u7 ++ wX8 cI cZ cB b8 u8)[41]? = some (ct_adr b7 u7 b8 u8 b 57, am_cell (ct_G D cI cZ cB b7 u7 b8 u8 b) (st0 L xs 57) (1, 8, [])) := rfl
theorem ct_at_58 : (wX7 cI cZ cB b7 u7 ++ wX8 cI cZ cB b8 u8)[42]? = some (ct_adr b7 u7 b8 u8 b 58, am_cell (ct_G D cI cZ cB b7 u7 b8 u8 b) (st0 L xs 58) (0, 0, [none, some 59])) := rfl
theorem ct_at_59 : (wX7 cI cZ cB b7 u7 ++ wX8 cI cZ cB b8 u8)[43]? = some (ct_adr b7 u7 b8 u8 b 59, am_cell (ct_G D cI cZ cB b7 u7 b8 u8 b) (st0 L xs 59) (1, 8, [])) := rfl
theorem ct_at {k : Nat} {Y : am_L} (hk : k < 60) (h : am_lay[k]? = some Y) : (wX7 cI cZ cB b7 u7 ++ wX8 cI cZ cB b8 u8)[ct_pos k]? = some (ct_adr b7 u7 b8 u8 b k, am_cell (ct_G D cI cZ cB b7 u7 b8 u8 b) (st0 L xs k) Y) := by
  match k, hk, h with
  | 0, _, h => cases h; exact ct_at_0 D cI cZ cB b7 u7 b8 u8 b L xs
  | 1, _, h => cases h; exact ct_at_1 D cI cZ cB b7 u7 b8 u8 b L xs
  | 2, _, h => cases h; exact ct_at_2 D cI cZ cB b7 u7 b8 u8 b L xs
  | 3, _, h => cases h; exact ct_at_3 D cI cZ cB b7 u7 b8 u8 b L xs
  | 4, _, h => cases h; exact ct_at_4 D cI cZ cB b7 u7 b8 u8 b L xs
  | 5, _, h => cases h; exact ct_at_5 D cI cZ cB b7 u7 b8 u8 b L xs
  | 6, _, h => cases h; exact ct_at_6 D cI cZ cB b7 u7 b8 u8 b L xs
  | 7, _, h => cases h; exact ct_at_7 D cI cZ cB b7 u7 b8 u8 b L xs
  | 8, _, h => cases h; exact ct_at_8 D cI cZ cB b7 u7 b8 u8 b L xs
  | 9, _, h => cases h; exact ct_at_9 D cI cZ cB b7 u7 b8 u8 b L xs
  | 10, _, h => cases h; exact ct_at_10 D cI cZ cB b7 u7 b8 u8 b L xs
  | 11, _, h => cases h; exact ct_at_11 D cI cZ cB b7 u7 b8 u8 b L xs
  | 12, _, h => cases h; exact ct_at_12 D cI cZ cB b7 u7 b8 u8 b L xs
  | 13, _, h => cases h; exact ct_at_13 D cI cZ cB b7 u7 b8 u8 b L xs
  | 14, _, h => cases h; exact ct_at_14 D cI cZ cB b7 u7 b8 u8 b L xs
  | 15, _, h => cases h; exact ct_at_15 D cI cZ cB b7 u7 b8 u8 b L xs
  | 16, _, h => cases h; exact ct_at_16 D cI cZ cB b7 u7 b8 u8 b L xs
  | 17, _, h => cases h; exact ct_at_17 D cI cZ cB b7 u7 b8 u8 b L xs
  | 18, _, h => cases h; exact ct_at_18 D cI cZ cB b7 u7 b8 u8 b L xs
  | 19, _, h => cases h; exact ct_at_19 D cI cZ cB b7 u7 b8 u8 b L xs
  | 20, _, h => cases h; exact ct_at_20 D cI cZ cB b7 u7 b8 u8 b L xs
  | 21, _, h => cases h; exact ct_at_21 D cI cZ cB b7 u7 b8 u8 b L xs
  | 22, _, h => cases h; exact ct_at_22 D cI cZ cB b7 u7 b8 u8 b L xs
  | 23, _, h => cases h; exact ct_at_23 D cI cZ cB b7 u7 b8 u8 b L xs
  | 24, _, h => cases h; exact ct_at_24 D cI cZ cB b7 u7 b8 u8 b L xs
  | 25, _, h => cases h; exact ct_at_25 D cI cZ cB b7 u7 b8 u8 b L xs
  | 26, _, h => cases h; exact ct_at_26 D cI cZ cB b7 u7 b8 u8 b L xs
  | 27, _, h => cases h; exact ct_at_27 D cI cZ cB b7 u7 b8 u8 b L xs
  | 28, _, h => cases h; exact ct_at_28 D cI cZ cB b7 u7 b8 u8 b L xs
  | 29, _, h => cases h; exact ct_at_29 D cI cZ cB b7 u7 b8 u8 b L xs
  | 30, _, h => cases h; exact ct_at_30 D cI cZ cB b7 u7 b8 u8 b L xs
  | 31, _, h => cases h; exact ct_at_31 D cI cZ cB b7 u7 b8 u8 b L xs
  | 32, _, h => cases h; exact ct_at_32 D cI cZ cB b7 u7 b8 u8 b L xs
  | 33, _, h => cases h; exact ct_at_33 D cI cZ cB b7 u7 b8 u8 b L xs
  | 34, _, h => cases h; exact ct_at_34 D cI cZ cB b7 u7 b8 u8 b L xs
  | 35, _, h => cases h; exact ct_at_35 D cI cZ cB b7 u7 b8 u8 b L xs
  | 36, _, h => cases h; exact ct_at_36 D cI cZ cB b7 u7 b8 u8 b L xs
  | 37, _, h => cases h; exact ct_at_37 D cI cZ cB b7 u7 b8 u8 b L xs
  | 38, _, h => cases h; exact ct_at_38 D cI cZ cB b7 u7 b8 u8 b L xs
  | 39, _, h => cases h; exact ct_at_39 D cI cZ cB b7 u7 b8 u8 b L xs
  | 40, _, h => cases h; exact ct_at_40 D cI cZ cB b7 u7 b8 u8 b L xs
  | 41, _, h => cases h; exact ct_at_41 D cI cZ cB b7 u7 b8 u8 b L xs
  | 42, _, h => cases h; exact ct_at_42 D cI cZ cB b7 u7 b8 u8 b L xs
  | 43, _, h => cases h; exact ct_at_43 D cI cZ cB b7 u7 b8 u8 b L xs
  | 44, _, h => cases h; exact ct_at_44 D cI cZ cB b7 u7 b8 u8 b L xs
  | 45, _, h => cases h; exact ct_at_45 D cI cZ cB b7 u7 b8 u8 b L xs
  | 46, _, h => cases h; exact ct_at_46 D cI cZ cB b7 u7 b8 u8 b L xs
  | 47, _, h => cases h; exact ct_at_47 D cI cZ cB b7 u7 b8 u8 b L xs
  | 48, _, h => cases h; exact ct_at_48 D cI cZ cB b7 u7 b8 u8 b L xs
  | 49, _, h => cases h; exact ct_at_49 D cI cZ cB b7 u7 b8 u8 b L xs
  | 50, _, h => cases h; exact ct_at_50 D cI cZ cB b7 u7 b8 u8 b L xs
  | 51, _, h => cases h; exact ct_at_51 D cI cZ cB b7 u7 b8 u8 b L xs
  | 52, _, h => cases h; exact ct_at_52 D cI cZ cB b7 u7 b8 u8 b L xs
  | 53, _, h => cases h; exact ct_at_53 D cI cZ cB b7 u7 b8 u8 b L xs
  | 54, _, h => cases h; exact ct_at_54 D cI cZ cB b7 u7 b8 u8 b L xs
  | 55, _, h => cases h; exact ct_at_55 D cI cZ cB b7 u7 b8 u8 b L xs
  | 56, _, h => cases h; exact ct_at_56 D cI cZ cB b7 u7 b8 u8 b L xs
  | 57, _, h => cases h; exact ct_at_57 D cI cZ cB b7 u7 b8 u8 b L xs
  | 58, _, h => cases h; exact ct_at_58 D cI cZ cB b7 u7 b8 u8 b L xs
  | 59, _, h => cases h; exact ct_at_59 D cI cZ cB b7 u7 b8 u8 b L xs
  | n + 60, hk, _ => omega
end
theorem ct_P {D : va_G} {cI cZ cB : ClassId} {b7 : Nat} {u7 : Nat → Nat} {b8 : Nat} {u8 : Nat → Nat} {H : Heap} (b L : Nat) (xs : Nat → Int32) (hP : va_P D am_cls (wX7 cI cZ cB b7 u7 ++ wX8 cI cZ cB b8 u8) H) : va_P D am_cls (am_ws (ct_G D cI cZ cB b7 u7 b8 u8 b) (st0 L xs)) H := by
  intro k q hk
  obtain ⟨k1, Y, hY, rfl⟩ := am_ws_inv hk
  exact hP _ _ (ct_at D cI cZ cB b7 u7 b8 u8 b L xs k1 hY)
theorem ct_D {A : Nat → Prop} {D : va_G} {cI cZ cB : ClassId} {b7 : Nat} {u7 : Nat → Nat} {b8 : Nat} {u8 : Nat → Nat} (b L : Nat) (xs : Nat → Int32) (hD : va_D A (wX7 cI cZ cB b7 u7 ++ wX8 cI cZ cB b8 u8)) : va_D A (am_ws (ct_G D cI cZ cB b7 u7 b8 u8 b) (st0 L xs)) := by
  refine ⟨fun i j p q hi hj e => ?_, fun k q hk => ?_⟩
  · obtain ⟨i1, Yi, hYi, rfl⟩ := am_ws_inv hi
    obtain ⟨j1, Yj, hYj, rfl⟩ := am_ws_inv hj
    exact ct_pos_inj i1 j1 (hD.1 _ _ _ _ (ct_at D cI cZ cB b7 u7 b8 u8 b L xs i1 hYi) (ct_at D cI cZ cB b7 u7 b8 u8 b L xs j1 hYj) e)
  · obtain ⟨k1, Y, hY, rfl⟩ := am_ws_inv hk
    exact hD.2 _ _ (ct_at D cI cZ cB b7 u7 b8 u8 b L xs k1 hY)
