/-! the class: LetterDays: letters, notes -/
def fgt (τ : am_S) : am_S := am_us (am_us τ 26 0 0) 41 0 0
theorem fgt_o (τ : am_S) {c : Nat} (h : c ≠ 26 ∧ c ≠ 41) : fgt τ c = τ c := by
  unfold fgt
  rw [us_o _ _ _ h.2, us_o _ _ _ h.1]
theorem fgt_26 (τ : am_S) : fgt τ 26 0 = 0 := by
  unfold fgt
  rw [us_o _ _ _ (by decide), us_e]
theorem fgt_41 (τ : am_S) : fgt τ 41 0 = 0 := by
  unfold fgt
  rw [us_e]
theorem sD_forget {K : am_KT} (hK : am_C K) {d : Nat} {σ : am_S} {Q : am_Q} (h : Q none (fgt σ)) : K d mD_forgetAnswers 0 [.inr 16] [] σ Q := bD_forgetAnswers_0 hK h
theorem sD_isStamp {K : am_KT} (hK : am_C K) {d : Nat} {σ : am_S} {Q : am_Q} {f l : Int} (rf : am_rng f) (rl : am_rng l) (h : ∀ r, r01 r (isSt f l) → Q (some r) σ) : K d mD_isStamp 0 [.inl f, .inl l] [] σ Q := by
  have no : ¬ isSt f l → K d mD_isStamp 10 [.inl f, .inl l] [] σ Q := fun q => bD_isStamp_10 hK (bD_isStamp_11 hK (Or.inl rfl) (h 0 (Or.inr ⟨rfl, q⟩)))
  refine bD_isStamp_0 hK rf (fun g => no (fun q => by have := q.1; omega)) (fun g => ?_)
  refine bD_isStamp_2 hK rf rl (fun g2 => no (fun q => by have := q.2; omega)) (fun g2 => ?_)
  exact bD_isStamp_5 hK rl (fun g3 => no (fun q => by have := q.2; omega)) (fun g3 => bD_isStamp_8 hK (bD_isStamp_11 hK (Or.inr rfl) (h 1 (Or.inl ⟨rfl, by omega, by omega⟩))))
theorem sD_isBundle {K : am_KT} (hK : am_C K) {d : Nat} {σ : am_S} {Q : am_Q} {b : Int} (rb : am_rng b) (h : ∀ r, r01 r (0 ≤ b ∧ b < 3) → Q (some r) σ) : K d mD_isBundle 0 [.inl b] [] σ Q := by
  refine bD_isBundle_0 hK rb (fun g => bD_isBundle_7 hK (bD_isBundle_8 hK (Or.inl rfl) (h 0 (Or.inr ⟨rfl, by omega⟩)))) (fun g => ?_)
  exact bD_isBundle_2 hK rb (fun g2 => bD_isBundle_7 hK (bD_isBundle_8 hK (Or.inl rfl) (h 0 (Or.inr ⟨rfl, by omega⟩)))) (fun g2 => bD_isBundle_5 hK (bD_isBundle_8 hK (Or.inr rfl) (h 1 (Or.inl ⟨rfl, g, g2⟩))))
theorem sD_isOfTwo {K : am_KT} (hK : am_C K) {d : Nat} {σ : am_S} {Q : am_Q} {so : Int} (rs : am_rng so) (s0 : 0 ≤ so) (h : ∀ r, r01 r (so ≤ 1) → Q (some r) σ) : K d mD_isOfTwo 0 [.inl so] [] σ Q := by
  have yes : so ≤ 1 → K d mD_isOfTwo 5 [.inl so] [] σ Q := fun q => bD_isOfTwo_5 hK (bD_isOfTwo_8 hK (Or.inr rfl) (h 1 (Or.inl ⟨rfl, q⟩)))
  refine bD_isOfTwo_0 hK rs (fun g => yes (by omega)) (fun g => ?_)
  exact bD_isOfTwo_2 hK rs (fun g2 => bD_isOfTwo_7 hK (bD_isOfTwo_8 hK (Or.inl rfl) (h 0 (Or.inr ⟨rfl, by omega⟩)))) (fun g2 => yes (by omega))
theorem sD_greatestNumber {K : am_KT} (hK : am_C K) {d : Nat} {σ : am_S} {Q : am_Q} {so : Int} (rs : am_rng so) (s0 : 0 ≤ so) (h : Q (some (nmost so)) σ) : K (d + 1) mD_greatestNumber 0 [.inl so] [] σ Q := by
  unfold nmost at h
  refine bD_greatestNumber_0 hK (sD_isOfTwo hK rs s0 (fun r hr => ?_))
  refine bD_greatestNumber_2 hK (r01_g hr) (fun g => ?_) (fun g => ?_)
  · rw [if_neg (r01_0 hr g)] at h
    refine bD_greatestNumber_5 hK rs (fun g2 => bD_greatestNumber_10 hK (bD_greatestNumber_11 hK ?_)) (fun g2 => bD_greatestNumber_8 hK (bD_greatestNumber_11 hK ?_))
    · rw [if_neg g2] at h
      exact h
    · rw [if_pos g2] at h
      exact h
  · rw [if_pos (r01_n hr g)] at h
    exact bD_greatestNumber_3 hK h
def cLet (σ : am_S) (f l : Int) : am_S := fgt (am_us (am_us (am_us σ 17 0 (σ 17 0 + 1)) 18 (σ 17 0) f) 19 (σ 17 0) l)
theorem sD_letter {K : am_KT} (hK : am_C K) {d : Nat} {σ : am_S} {Q : am_Q} {f l : Int} (rf : am_rng f) (rl : am_rng l) (n0 : 0 ≤ σ 17 0) (n8 : σ 17 0 ≤ 8) (h1 : ¬ isSt f l → Q (some (-2)) σ) (h2 : isSt f l → σ 17 0 = 8 → Q (some (-4)) σ) (h3 : isSt f l → σ 17 0 < 8 → Q (some (σ 17 0)) (cLet σ f l)) : K (d + 1) mD_letter 0 [.inr 16, .inl f, .inl l] [] σ Q := by
  refine bD_letter_0 hK (sD_isStamp hK rf rl (fun r hr => ?_))
  refine bD_letter_3 hK (r01_g hr) (fun g => ?_) (fun g => bD_letter_4 hK (h1 (r01_0 hr g)))
  have gs := r01_n hr g
  refine bD_letter_6 hK ⟨by omega, by omega⟩ (fun g2 => ?_) (fun g2 => bD_letter_11 hK (h2 gs (by omega)))
  exact bD_letter_13 hK (by omega) (bD_letter_29 hK (by omega) (sD_forget hK (bD_letter_37 hK (h3 gs g2))))
theorem sD_stamp {K : am_KT} (hK : am_C K) {d : Nat} {σ : am_S} {Q : am_Q} {a f l : Int} (ra : am_rng a) (rf : am_rng f) (rl : am_rng l) (n0 : 0 ≤ σ 17 0) (n8 : σ 17 0 ≤ 8) (h1 : ¬ (0 ≤ a ∧ a < σ 17 0) → Q (some (-1)) σ) (h2 : (0 ≤ a ∧ a < σ 17 0) → ¬ isSt f l → Q (some (-2)) σ) (h3 : (0 ≤ a ∧ a < σ 17 0) → isSt f l → Q (some (σ 18 a)) (fgt (am_us (am_us σ 18 a f) 19 a l))) : K (d + 1) mD_stamp 0 [.inr 16, .inl a, .inl f, .inl l] [] σ Q := by
  refine bD_stamp_0 hK (sL_has hK ra n0 n8 (fun r hr => ?_))
  refine bD_stamp_4 hK (r01_g hr) (fun g => ?_) (fun g => bD_stamp_5 hK (h1 (r01_0 hr g)))
  have ga := r01_n hr g
  refine bD_stamp_7 hK (sD_isStamp hK rf rl (fun r2 hr2 => ?_))
  refine bD_stamp_10 hK (r01_g hr2) (fun g2 => ?_) (fun g2 => bD_stamp_11 hK (h2 ga (r01_0 hr2 g2)))
  exact bD_stamp_13 hK (by omega) (by omega) (by omega) (sD_forget hK (bD_stamp_33 hK (h3 ga (r01_n hr2 g2))))
/-- behind a new note -/
def cNote (σ : am_S) (so a b dd w : Int) (τ : am_S) : Prop := (∀ c, (c < 20 ∨ 25 < c) → c ≠ 26 → c ≠ 41 → τ c = σ c) ∧ τ 20 0 = σ 20 0 + 1 ∧ τ 20 1 = am_or (σ 20 1) (am_shl 1 (σ 20 0)) ∧ (∀ k, τ 21 k = if k = σ 20 0 then so else σ 21 k) ∧ (∀ k, τ 22 k = if k = σ 20 0 then a else σ 22 k) ∧ (∀ k, τ 23 k = if k = σ 20 0 then b else σ 23 k) ∧ (∀ k, τ 24 k = if k = σ 20 0 then dd else σ 24 k) ∧ (∀ k, τ 25 k = if k = σ 20 0 then w else σ 25 k) ∧ τ 26 0 = 0 ∧ τ 41 0 = 0
theorem sD_note {K : am_KT} (hK : am_C K) {d : Nat} {σ : am_S} {Q : am_Q} {so a b dd w : Int} (rs : am_rng so) (ra : am_rng a) (rb : am_rng b) (rd : am_rng dd) (rw' : am_rng w) (n0 : 0 ≤ σ 17 0) (n8 : σ 17 0 ≤ 8) (m0 : 0 ≤ σ 20 0) (m10 : σ 20 0 ≤ 10)
    (h1 : ¬ (0 ≤ so ∧ so ≤ 4) → Q (some (-2)) σ) (h2 : (0 ≤ so ∧ so ≤ 4) → ¬ nv2 (σ 17 0) so a b → Q (some (-1)) σ) (h3 : (0 ≤ so ∧ so ≤ 4) → nv2 (σ 17 0) so a b → ¬ nv3 so dd w → Q (some (-2)) σ)
    (h4 : (0 ≤ so ∧ so ≤ 4) → nv2 (σ 17 0) so a b → nv3 so dd w → σ 20 0 = 10 → Q (some (-4)) σ) (h5 : (0 ≤ so ∧ so ≤ 4) → nv2 (σ 17 0) so a b → nv3 so dd w → σ 20 0 < 10 → ∀ τ, cNote σ so a b dd w τ → Q (some (σ 20 0)) τ) : K (d + 2) mD_note 0 [.inr 16, .inl so, .inl a, .inl b, .inl dd, .inl w] [] σ Q := by
  refine bD_note_0 (d := d + 1) hK rs (fun g => bD_note_5 (d := d + 1) hK (h1 (by omega))) (fun g => ?_)
  refine bD_note_2 (d := d + 1) hK rs (fun g2 => ?_) (fun g2 => bD_note_5 (d := d + 1) hK (h1 (by omega)))
  have gs : 0 ≤ so ∧ so ≤ 4 := ⟨g, g2⟩
  have no : ¬ nv2 (σ 17 0) so a b → K (d + 2) mD_note 26 [.inr 16, .inl so, .inl a, .inl b, .inl dd, .inl w] [] σ Q := fun q => bD_note_26 (d := d + 1) hK (h2 gs q)
  refine bD_note_7 (d := d + 1) hK (sL_has hK ra n0 n8 (fun r1 hr1 => ?_))
  refine bD_note_11 (d := d + 1) hK (r01_g hr1) (fun g => no (fun q => r01_0 hr1 g q.1)) (fun g => ?_)
  have ga := r01_n hr1 g
  refine bD_note_12 (d := d + 1) hK (sL_has hK rb n0 n8 (fun r2 hr2 => ?_))
  refine bD_note_16 (d := d + 1) hK (r01_g hr2) (fun g => no (fun q => r01_0 hr2 g q.2.1)) (fun g => ?_)
  have gb := r01_n hr2 g
  refine bD_note_17 (d := d + 1) hK (sD_isOfTwo hK rs gs.1 (fun r3 hr3 => ?_))
  have r3z := r01_z hr3
  have go : nv2 (σ 17 0) so a b → K (d + 2) mD_note 28 [.inr 16, .inl so, .inl a, .inl b, .inl dd, .inl w] [] σ Q := by
    intro q2
    have no3 : ¬ nv3 so dd w → K (d + 2) mD_note 40 [.inr 16, .inl so, .inl a, .inl b, .inl dd, .inl w] [] σ Q := fun q => bD_note_40 (d := d + 1) hK (h3 gs q2 q)
    have rm : am_rng (nmost so) := by
      unfold nmost
      split
      · exact ⟨by decide, by decide⟩
      · split <;> exact ⟨by decide, by decide⟩
    refine bD_note_28 (d := d + 1) hK rd (fun z => no3 (fun q => by have := q.1; omega)) (fun z => ?_)
    refine bD_note_30 (d := d + 1) hK (sD_greatestNumber hK rs gs.1 ?_)
    refine bD_note_33 (d := d + 1) hK rd rm (fun z2 => no3 (fun q => by have := q.1; omega)) (fun z2 => ?_)
    refine bD_note_34 (d := d + 1) hK rw' (fun z3 => no3 (fun q => by have := q.2; omega)) (fun z3 => ?_)
    refine bD_note_37 (d := d + 1) hK rw' (fun z4 => ?_) (fun z4 => no3 (fun q => by have := q.2; omega))
    have q3 : nv3 so dd w := ⟨⟨z, z2⟩, ⟨z3, z4⟩⟩
    refine bD_note_42 (d := d + 1) hK ⟨by omega, by omega⟩ (fun z5 => ?_) (fun z5 => bD_note_47 (d := d + 1) hK (h4 gs q2 q3 (by omega)))
    have hfin := h5 gs q2 q3 z5
    refine bD_note_49 (d := d + 1) hK (by omega) (bD_note_65 (d := d + 1) hK (by omega) (by omega) (bD_note_77 (d := d + 1) hK (by omega) (by omega) (bD_note_89 (d := d + 1) hK (sD_forget hK (bD_note_100 (d := d + 1) hK (hfin _ ?_))))))
    generalize hM : σ 20 0 = M at z5
    have o20 : ∀ (j : Int), j ≠ 0 → am_us (am_us (am_us (am_us (am_us (am_us σ 20 0 (M + 1)) 21 M so) 22 M a) 23 M b) 24 M dd) 25 M w 20 j = σ 20 j := fun j hj => by
      rw [us_o _ _ _ (by decide), us_o _ _ _ (by decide), us_o _ _ _ (by decide), us_o _ _ _ (by decide), us_o _ _ _ (by decide), us_n _ _ _ hj]
    have o200 : am_us (am_us (am_us (am_us (am_us (am_us σ 20 0 (M + 1)) 21 M so) 22 M a) 23 M b) 24 M dd) 25 M w 20 0 = M + 1 := by
      rw [us_o _ _ _ (by decide), us_o _ _ _ (by decide), us_o _ _ _ (by decide), us_o _ _ _ (by decide), us_o _ _ _ (by decide), us_e]
    rw [o20 1 (by decide)]
    refine ⟨fun c hc h6 h41 => ?_, ?_, ?_, fun k => ?_, fun k => ?_, fun k => ?_, fun k => ?_, fun k => ?_, fgt_26 _, fgt_41 _⟩
    · rw [fgt_o _ ⟨h6, h41⟩, us_o _ _ _ (by omega), us_o _ _ _ (by omega), us_o _ _ _ (by omega), us_o _ _ _ (by omega), us_o _ _ _ (by omega), us_o _ _ _ (by omega), us_o _ _ _ (by omega)]
    · rw [fgt_o _ (by decide), us_n _ _ _ (by decide), o200, hM]
    · rw [fgt_o _ (by decide), us_e, hM]
    · rw [fgt_o _ (by decide), us_o _ _ _ (by decide), us_o _ _ _ (by decide), us_o _ _ _ (by decide), us_o _ _ _ (by decide), us_o _ _ _ (by decide), us_s, us_o _ _ _ (by decide), hM]
    · rw [fgt_o _ (by decide), us_o _ _ _ (by decide), us_o _ _ _ (by decide), us_o _ _ _ (by decide), us_o _ _ _ (by decide), us_s, us_o _ _ _ (by decide), us_o _ _ _ (by decide), hM]
    · rw [fgt_o _ (by decide), us_o _ _ _ (by decide), us_o _ _ _ (by decide), us_o _ _ _ (by decide), us_s, us_o _ _ _ (by decide), us_o _ _ _ (by decide), us_o _ _ _ (by decide), hM]
    · rw [fgt_o _ (by decide), us_o _ _ _ (by decide), us_o _ _ _ (by decide), us_s, us_o _ _ _ (by decide), us_o _ _ _ (by decide), us_o _ _ _ (by decide), us_o _ _ _ (by decide), hM]
    · rw [fgt_o _ (by decide), us_o _ _ _ (by decide), us_s, us_o _ _ _ (by decide), us_o _ _ _ (by decide), us_o _ _ _ (by decide), us_o _ _ _ (by decide), us_o _ _ _ (by decide), hM]
  have h3a : r3 = 1 ↔ so ≤ 1 := by
    rcases hr3 with q | q
    · exact ⟨fun _ => q.2, fun _ => q.1⟩
    · exact ⟨fun z => by omega, fun z => absurd z q.2⟩
  refine bD_note_19 (d := d + 1) hK ra rb (fun z => bD_note_24 (d := d + 1) hK ?_) (fun z => bD_note_22 (d := d + 1) hK ?_)
  · exact bD_note_25 (d := d + 1) hK (r01_g hr3) ⟨by decide, by decide⟩ (fun z2 => go ⟨ga, gb, by omega⟩) (fun z2 => no (fun q => by have := q.2.2; omega))
  · exact bD_note_25 (d := d + 1) hK (r01_g hr3) ⟨by decide, by decide⟩ (fun z2 => go ⟨ga, gb, by omega⟩) (fun z2 => no (fun q => by have := q.2.2; omega))
theorem sD_force {K : am_KT} (hK : am_C K) {d : Nat} {σ : am_S} {Q : am_Q} {k v : Int} (rk : am_rng k) (hv : v = 0 ∨ v = 1) (hc : Cok σ) (h1 : ¬ (0 ≤ k ∧ k < σ 20 0) → Q (some (-1)) σ) (h2 : (0 ≤ k ∧ k < σ 20 0) → (SB (σ 20 1).toNat k ↔ v = 1) → Q (some 0) σ) (h3 : (0 ≤ k ∧ k < σ 20 0) → ¬ (SB (σ 20 1).toNat k ↔ v = 1) → Q (some 1) (fgt (am_us σ 20 1 (am_xor (σ 20 1) (am_shl 1 k))))) : K (d + 1) mD_force 0 [.inr 16, .inl k, .inl v] [] σ Q := by
  have m0 : 0 ≤ σ 20 0 := hc.1.2.2.1.1
  have m10 : σ 20 0 ≤ 10 := hc.1.2.2.1.2
  refine bD_force_0 hK (sN_has hK rk m0 m10 (fun r hr => ?_))
  refine bD_force_4 hK (r01_g hr) (fun g => ?_) (fun g => bD_force_5 hK (h1 (r01_0 hr g)))
  have gk := r01_n hr g
  refine bD_force_7 hK (sN_isInForce hK hc.2.1 hc.2.2 gk.1 (by omega) (fun r2 hr2 => ?_))
  have e : r2 = 1 ↔ SB (σ 20 1).toNat k := by
    rcases hr2 with q | q
    · exact ⟨fun _ => q.2, fun _ => q.1⟩
    · exact ⟨fun z => by omega, fun z => absurd z q.2⟩
  have r2z := r01_z hr2
  refine bD_force_11 hK (r01_g hr2) ⟨by omega, by omega⟩ (fun g2 => bD_force_15 hK (sD_forget hK (bD_force_26 hK (h3 gk (fun q => ?_))))) (fun g2 => bD_force_13 hK (h2 gk ?_))
  · rw [← e] at q
    omega
  · rw [← e]
    omega
theorem sD_unnote {K : am_KT} (hK : am_C K) {d : Nat} {σ : am_S} {Q : am_Q} (m0 : 0 ≤ σ 20 0) (m10 : σ 20 0 ≤ 10) (h1 : σ 20 0 = 0 → Q (some (-3)) σ) (h2 : 0 < σ 20 0 → Q (some (σ 20 0 - 1)) (fgt (am_us (am_us σ 20 0 (σ 20 0 - 1)) 20 1 (am_and (σ 20 1) (am_xor (am_shl 1 (σ 20 0 - 1)) (-1)))))) : K (d + 1) mD_unnote 0 [.inr 16] [] σ Q := by
  refine bD_unnote_0 hK ⟨by omega, by omega⟩ (fun g => ?_) (fun g => bD_unnote_4 hK (h1 (by omega)))
  refine bD_unnote_6 hK (sD_forget hK (bD_unnote_28 hK ?_))
  have e0 : am_us σ 20 0 (σ 20 0 - 1) 20 0 = σ 20 0 - 1 := us_e _ _ _ _
  have e1 : am_us σ 20 0 (σ 20 0 - 1) 20 1 = σ 20 1 := us_n _ _ _ (by decide)
  rw [e0, e1]
  have e2 : fgt (am_us (am_us σ 20 0 (σ 20 0 - 1)) 20 1 (am_and (σ 20 1) (am_xor (am_shl 1 (σ 20 0 - 1)) (-1)))) 20 0 = σ 20 0 - 1 := by rw [fgt_o _ (by decide), us_n _ _ _ (by decide), us_e]
  rw [e2]
  exact h2 g
theorem sD_ofNote {K : am_KT} (hK : am_C K) {d : Nat} {σ : am_S} {Q : am_Q} {k what : Int} (rk : am_rng k) (rw' : am_rng what) (hc : Cok σ) (h : Q (some (aOfNote (σ 20 0) (σ 21) (σ 22) (σ 23) (σ 24) (σ 25) (σ 20 1).toNat k what)) σ) : K (d + 1) mD_ofNote 0 [.inr 16, .inl k, .inl what] [] σ Q := by
  have m0 : 0 ≤ σ 20 0 := hc.1.2.2.1.1
  have m10 : σ 20 0 ≤ 10 := hc.1.2.2.1.2
  unfold aOfNote at h
  refine bD_ofNote_0 hK (sN_has hK rk m0 m10 (fun r hr => ?_))
  refine bD_ofNote_4 hK (r01_g hr) (fun g => ?_) (fun g => bD_ofNote_5 hK ?_)
  · have gk := r01_n hr g
    rw [if_neg (fun q => q gk)] at h
    refine bD_ofNote_7 hK rw' (fun e => ?_) (fun e => ?_) (fun e => ?_) (fun e => ?_) (fun e => ?_) (fun e => ?_) (fun e => ?_)
    · subst e
      exact bD_ofNote_9 hK (by omega) h
    · subst e
      exact bD_ofNote_15 hK (by omega) h
    · subst e
      exact bD_ofNote_21 hK (by omega) h
    · subst e
      exact bD_ofNote_27 hK (by omega) h
    · subst e
      exact bD_ofNote_33 hK (by omega) h
    · subst e
      have h : Q (some (ic (SB (σ 20 1).toNat k) 1 0)) σ := h
      refine bD_ofNote_39 hK (sN_isInForce hK hc.2.1 hc.2.2 gk.1 (by omega) (fun r2 hr2 => ?_))
      refine bD_ofNote_43 hK (r01_g hr2) (fun g2 => ?_) (fun g2 => ?_)
      · rw [ic_f (r01_0 hr2 g2)] at h
        exact bD_ofNote_46 hK (bD_ofNote_47 hK h)
      · rw [ic_t (r01_n hr2 g2)] at h
        exact bD_ofNote_44 hK (bD_ofNote_47 hK h)
    · rw [if_neg (by omega), if_neg (by omega), if_neg (by omega), if_neg (by omega), if_neg (by omega), if_neg (by omega)] at h
      exact bD_ofNote_48 hK h
  · rw [if_pos (r01_0 hr g)] at h
    exact h
