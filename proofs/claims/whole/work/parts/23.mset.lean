/-! the reference: letters, notes -/
def isSt (f l : Int) : Prop := (0 ≤ f ∧ f ≤ 199) ∧ (f ≤ l ∧ l ≤ 199)
theorem sM_isStamp {K : am_KT} (hK : am_C K) {d : Nat} {σ : am_S} {Q : am_Q} {f l : Int} (rf : am_rng f) (rl : am_rng l) (h : ∀ r, r01 r (isSt f l) → Q (some r) σ) : K (d + 1) mM_isStamp 0 [.inl f, .inl l] [] σ Q := by
  refine bM_isStamp_0 hK (sM_within hK rf ⟨by decide, by decide⟩ ⟨by decide, by decide⟩ (fun r hr => ?_))
  refine bM_isStamp_4 hK (r01_g hr) (fun g => bM_isStamp_12 hK (bM_isStamp_13 hK (Or.inl rfl) (h 0 (Or.inr ⟨rfl, fun q => r01_0 hr g q.1⟩)))) (fun g => ?_)
  refine bM_isStamp_5 hK (sM_within hK rl rf ⟨by decide, by decide⟩ (fun r2 hr2 => ?_))
  exact bM_isStamp_9 hK (r01_g hr2) (fun g2 => bM_isStamp_12 hK (bM_isStamp_13 hK (Or.inl rfl) (h 0 (Or.inr ⟨rfl, fun q => r01_0 hr2 g2 q.2⟩)))) (fun g2 => bM_isStamp_10 hK (bM_isStamp_13 hK (Or.inr rfl) (h 1 (Or.inl ⟨rfl, r01_n hr g, r01_n hr2 g2⟩))))
theorem sM_isBundle {K : am_KT} (hK : am_C K) {d : Nat} {σ : am_S} {Q : am_Q} {b : Int} (rb : am_rng b) (h : ∀ r, r01 r (0 ≤ b ∧ b < 3) → Q (some r) σ) : K (d + 1) mM_isBundle 0 [.inl b] [] σ Q := by
  refine bM_isBundle_0 hK (sM_within hK rb ⟨by decide, by decide⟩ ⟨by decide, by decide⟩ (fun r hr => bM_isBundle_4 hK (r01_z hr) (h r ?_)))
  rcases hr with q | q
  · exact Or.inl ⟨q.1, by omega⟩
  · exact Or.inr ⟨q.1, by omega⟩
/-- behind a new letter -/
def stLet (σ : am_S) (c0 c1 c2 : Nat) (f l : Int) : am_S := am_us (am_us (am_us σ c1 (σ c0 0) f) c2 (σ c0 0) l) c0 0 (σ c0 0 + 1)
theorem sM_letter {K : am_KT} (hK : am_C K) {d : Nat} {σ : am_S} {Q : am_Q} {f l : Int} (rf : am_rng f) (rl : am_rng l) (n0 : 0 ≤ σ 0 0) (n8 : σ 0 0 ≤ 8) (h1 : ¬ isSt f l → Q (some (-2)) σ) (h2 : isSt f l → σ 0 0 = 8 → Q (some (-4)) σ) (h3 : isSt f l → σ 0 0 < 8 → Q (some (σ 0 0)) (stLet σ 0 1 2 f l)) : K (d + 2) mM_letter 0 [.inr 0, .inl f, .inl l] [] σ Q := by
  refine bM_letter_0 (d := d + 1) hK (sM_isStamp hK rf rl (fun r hr => ?_))
  refine bM_letter_3 (d := d + 1) hK (r01_g hr) (fun g => ?_) (fun g => bM_letter_4 (d := d + 1) hK (h1 (r01_0 hr g)))
  have gs := r01_n hr g
  refine bM_letter_6 (d := d + 1) hK ⟨by omega, by omega⟩ (fun g2 => ?_) (fun g2 => bM_letter_10 (d := d + 1) hK (h2 gs g2))
  have e1 : am_us σ 1 (σ 0 0) f 0 0 = σ 0 0 := by rw [us_o _ _ _ (by decide)]
  have h4 := h3 gs (by omega)
  refine bM_letter_12 (d := d + 1) hK (by omega) (by rw [e1]; omega) (bM_letter_24 (d := d + 1) hK ?_)
  rw [e1]
  have e2 : am_us (am_us σ 1 (σ 0 0) f) 2 (σ 0 0) l 0 0 = σ 0 0 := by rw [us_o _ _ _ (by decide), us_o _ _ _ (by decide)]
  rw [e2, us_e, show σ 0 0 + 1 - 1 = σ 0 0 by omega]
  exact h4
theorem sM_stamp {K : am_KT} (hK : am_C K) {d : Nat} {σ : am_S} {Q : am_Q} {a f l : Int} (ra : am_rng a) (rf : am_rng f) (rl : am_rng l) (n0 : 0 ≤ σ 0 0) (n8 : σ 0 0 ≤ 8) (h1 : ¬ (0 ≤ a ∧ a < σ 0 0) → Q (some (-1)) σ) (h2 : (0 ≤ a ∧ a < σ 0 0) → ¬ isSt f l → Q (some (-2)) σ) (h3 : (0 ≤ a ∧ a < σ 0 0) → isSt f l → Q (some (σ 1 a)) (am_us (am_us σ 1 a f) 2 a l)) : K (d + 2) mM_stamp 0 [.inr 0, .inl a, .inl f, .inl l] [] σ Q := by
  refine bM_stamp_0 (d := d + 1) hK (sM_isLetter hK ra n0 n8 (fun r hr => ?_))
  refine bM_stamp_3 (d := d + 1) hK (r01_g hr) (fun g => ?_) (fun g => bM_stamp_4 (d := d + 1) hK (h1 (r01_0 hr g)))
  have ga := r01_n hr g
  refine bM_stamp_6 (d := d + 1) hK (sM_isStamp hK rf rl (fun r2 hr2 => ?_))
  refine bM_stamp_9 (d := d + 1) hK (r01_g hr2) (fun g2 => ?_) (fun g2 => bM_stamp_10 (d := d + 1) hK (h2 ga (r01_0 hr2 g2)))
  exact bM_stamp_12 (d := d + 1) hK (by omega) (by omega) (by omega) (h3 ga (r01_n hr2 g2))
/-- what is asked of a note: its sort; its letters; its number and weight -/
def nv2 (n so a b : Int) : Prop := (0 ≤ a ∧ a < n) ∧ (0 ≤ b ∧ b < n) ∧ (so ≤ 1 ↔ a ≠ b)
def nmost (so : Int) : Int := if so ≤ 1 then 99 else if so = 4 then 6 else 199
def nv3 (so dd w : Int) : Prop := (0 ≤ dd ∧ dd ≤ nmost so) ∧ (1 ≤ w ∧ w ≤ 9)
/-- behind a new note: in the order in which the reference writes -/
def stNote (σ : am_S) (so a b dd w : Int) : am_S := am_us (am_us (am_us (am_us (am_us (am_us (am_us σ 3 (σ 0 3) so) 4 (σ 0 3) a) 5 (σ 0 3) b) 6 (σ 0 3) dd) 7 (σ 0 3) w) 8 (σ 0 3) 1) 0 3 (σ 0 3 + 1)
theorem sM_note {K : am_KT} (hK : am_C K) {d : Nat} {σ : am_S} {Q : am_Q} {so a b dd w : Int} (rs : am_rng so) (ra : am_rng a) (rb : am_rng b) (rd : am_rng dd) (rw' : am_rng w) (n0 : 0 ≤ σ 0 0) (n8 : σ 0 0 ≤ 8) (m0 : 0 ≤ σ 0 3) (m10 : σ 0 3 ≤ 10)
    (h1 : ¬ (0 ≤ so ∧ so ≤ 4) → Q (some (-2)) σ) (h2 : (0 ≤ so ∧ so ≤ 4) → ¬ nv2 (σ 0 0) so a b → Q (some (-1)) σ) (h3 : (0 ≤ so ∧ so ≤ 4) → nv2 (σ 0 0) so a b → ¬ nv3 so dd w → Q (some (-2)) σ)
    (h4 : (0 ≤ so ∧ so ≤ 4) → nv2 (σ 0 0) so a b → nv3 so dd w → σ 0 3 = 10 → Q (some (-4)) σ) (h5 : (0 ≤ so ∧ so ≤ 4) → nv2 (σ 0 0) so a b → nv3 so dd w → σ 0 3 < 10 → Q (some (σ 0 3)) (stNote σ so a b dd w)) : K (d + 2) mM_note 0 [.inr 0, .inl so, .inl a, .inl b, .inl dd, .inl w] [] σ Q := by
  refine bM_note_0 (d := d + 1) hK (sM_within hK rs ⟨by decide, by decide⟩ ⟨by decide, by decide⟩ (fun r hr => ?_))
  refine bM_note_4 (d := d + 1) hK (r01_g hr) (fun g => ?_) (fun g => bM_note_5 (d := d + 1) hK (h1 (r01_0 hr g)))
  have gs := r01_n hr g
  have two : ∀ t : Int, ((t = 1 ∧ so ≤ 1) ∨ (t = 0 ∧ ¬ so ≤ 1)) → K (d + 2) mM_note 15 [.inr 0, .inl so, .inl a, .inl b, .inl dd, .inl w] [.inl t] σ Q := by
    intro t ht
    have rt : am_rng t := ⟨by omega, by omega⟩
    have no : ¬ nv2 (σ 0 0) so a b → K (d + 2) mM_note 32 [.inr 0, .inl so, .inl a, .inl b, .inl dd, .inl w, .inl t] [] σ Q := fun q => bM_note_32 (d := d + 1) hK (h2 gs q)
    refine bM_note_15 (d := d + 1) hK (sM_isLetter hK ra n0 n8 (fun r1 hr1 => ?_))
    refine bM_note_19 (d := d + 1) hK (r01_g hr1) (fun g1 => no (fun q => r01_0 hr1 g1 q.1)) (fun g1 => ?_)
    have ga := r01_n hr1 g1
    refine bM_note_20 (d := d + 1) hK (sM_isLetter hK rb n0 n8 (fun r2 hr2 => ?_))
    refine bM_note_23 (d := d + 1) hK (r01_g hr2) (fun g2 => no (fun q => r01_0 hr2 g2 q.2.1)) (fun g2 => ?_)
    have gb := r01_n hr2 g2
    have go : nv2 (σ 0 0) so a b → K (d + 2) mM_note 34 [.inr 0, .inl so, .inl a, .inl b, .inl dd, .inl w, .inl t] [] σ Q := by
      intro q2
      have most : ∀ mo, mo = nmost so → K (d + 2) mM_note 44 [.inr 0, .inl so, .inl a, .inl b, .inl dd, .inl w, .inl t] [.inl mo] σ Q := by
        intro mo hmo
        have rm : am_rng mo := by
          rw [hmo]
          unfold nmost
          split
          · exact ⟨by decide, by decide⟩
          · split <;> exact ⟨by decide, by decide⟩
        have no3 : ¬ nv3 so dd w → K (d + 2) mM_note 55 [.inr 0, .inl so, .inl a, .inl b, .inl dd, .inl w, .inl t, .inl mo] [] σ Q := fun q => bM_note_55 (d := d + 1) hK (h3 gs q2 q)
        refine bM_note_44 (d := d + 1) hK (sM_within hK rd ⟨by decide, by decide⟩ rm (fun r3 hr3 => ?_))
        refine bM_note_49 (d := d + 1) hK (r01_g hr3) (fun g3 => no3 (fun q => r01_0 hr3 g3 (by rw [hmo]; exact q.1))) (fun g3 => ?_)
        refine bM_note_50 (d := d + 1) hK (sM_within hK rw' ⟨by decide, by decide⟩ ⟨by decide, by decide⟩ (fun r4 hr4 => ?_))
        refine bM_note_54 (d := d + 1) hK (r01_g hr4) (fun g4 => ?_) (fun g4 => no3 (fun q => r01_0 hr4 g4 q.2))
        have q3 : nv3 so dd w := ⟨by rw [← hmo]; exact r01_n hr3 g3, r01_n hr4 g4⟩
        refine bM_note_57 (d := d + 1) hK ⟨by omega, by omega⟩ (fun g5 => ?_) (fun g5 => bM_note_61 (d := d + 1) hK (h4 gs q2 q3 g5))
        have hfin := h5 gs q2 q3 (by omega)
        unfold stNote at hfin
        have e1 : am_us σ 3 (σ 0 3) so 0 3 = σ 0 3 := by rw [us_o _ _ _ (by decide)]
        refine bM_note_63 (d := d + 1) hK (by omega) (by rw [e1]; omega) ?_
        rw [e1]
        have e2 : am_us (am_us σ 3 (σ 0 3) so) 4 (σ 0 3) a 0 3 = σ 0 3 := by rw [us_o _ _ _ (by decide)]; exact e1
        generalize am_us (am_us σ 3 (σ 0 3) so) 4 (σ 0 3) a = σ1 at e2 hfin ⊢
        have e3 : am_us σ1 5 (σ1 0 3) b 0 3 = σ 0 3 := by rw [us_o _ _ _ (by decide)]; exact e2
        refine bM_note_75 (d := d + 1) hK (by omega) (by rw [e3]; omega) ?_
        rw [e3, e2]
        have e4 : am_us (am_us σ1 5 (σ 0 3) b) 6 (σ 0 3) dd 0 3 = σ 0 3 := by rw [us_o _ _ _ (by decide), us_o _ _ _ (by decide)]; exact e2
        generalize am_us (am_us σ1 5 (σ 0 3) b) 6 (σ 0 3) dd = σ2 at e4 hfin ⊢
        have e5 : am_us σ2 7 (σ2 0 3) w 0 3 = σ 0 3 := by rw [us_o _ _ _ (by decide)]; exact e4
        refine bM_note_87 (d := d + 1) hK (by omega) (by rw [e5]; omega) ?_
        rw [e5, e4]
        have e6 : am_us (am_us σ2 7 (σ 0 3) w) 8 (σ 0 3) 1 0 3 = σ 0 3 := by rw [us_o _ _ _ (by decide), us_o _ _ _ (by decide)]; exact e4
        refine bM_note_99 (d := d + 1) hK ?_
        rw [e6, us_e, show σ 0 3 + 1 - 1 = σ 0 3 by omega]
        exact hfin
      refine bM_note_34 (d := d + 1) hK rt (fun z => ?_) (fun z => bM_note_36 (d := d + 1) hK (most 99 ?_))
      · refine bM_note_38 (d := d + 1) hK rs (fun z2 => bM_note_43 (d := d + 1) hK (most 199 ?_)) (fun z2 => bM_note_41 (d := d + 1) hK (most 6 ?_))
        · unfold nmost
          rw [if_neg (by omega), if_neg z2]
        · unfold nmost
          rw [if_neg (by omega), if_pos z2]
      · unfold nmost
        rw [if_pos (by omega)]
    refine bM_note_24 (d := d + 1) hK ra rb (fun z => bM_note_30 (d := d + 1) hK (bM_note_31 (d := d + 1) hK rt ⟨by decide, by decide⟩ (fun z2 => go ⟨ga, gb, by omega⟩) (fun z2 => no (fun q => by have := q.2.2; omega)))) (fun z => bM_note_28 (d := d + 1) hK (bM_note_31 (d := d + 1) hK rt ⟨by decide, by decide⟩ (fun z2 => go ⟨ga, gb, by omega⟩) (fun z2 => no (fun q => by have := q.2.2; omega))))
  refine bM_note_7 (d := d + 1) hK rs (fun z => bM_note_12 (d := d + 1) hK (two 1 (Or.inl ⟨rfl, by omega⟩))) (fun z => ?_)
  exact bM_note_9 (d := d + 1) hK rs (fun z2 => bM_note_14 (d := d + 1) hK (two 0 (Or.inr ⟨rfl, by omega⟩))) (fun z2 => bM_note_12 (d := d + 1) hK (two 1 (Or.inl ⟨rfl, by omega⟩)))
theorem sM_force {K : am_KT} (hK : am_C K) {d : Nat} {σ : am_S} {Q : am_Q} {k v : Int} (rk : am_rng k) (hv : v = 0 ∨ v = 1) (hm : Mok σ) (h1 : ¬ (0 ≤ k ∧ k < σ 0 3) → Q (some (-1)) σ) (h2 : (0 ≤ k ∧ k < σ 0 3) → σ 8 k = v → Q (some 0) σ) (h3 : (0 ≤ k ∧ k < σ 0 3) → σ 8 k ≠ v → Q (some 1) (am_us σ 8 k v)) : K (d + 2) mM_force 0 [.inr 0, .inl k, .inl v] [] σ Q := by
  have m0 : 0 ≤ σ 0 3 := hm.1.2.2.1.1
  have m10 : σ 0 3 ≤ 10 := hm.1.2.2.1.2
  refine bM_force_0 (d := d + 1) hK (sM_isNote hK rk m0 m10 (fun r hr => ?_))
  refine bM_force_3 (d := d + 1) hK (r01_g hr) (fun g => ?_) (fun g => bM_force_4 (d := d + 1) hK (h1 (r01_0 hr g)))
  have gk := r01_n hr g
  have hf := hm.2 k gk.1 (by omega)
  exact bM_force_6 (d := d + 1) hK (by omega) ⟨by omega, by omega⟩ ⟨by omega, by omega⟩ (fun g2 => bM_force_14 (d := d + 1) hK (by omega) hv (h3 gk g2)) (fun g2 => bM_force_12 (d := d + 1) hK (h2 gk g2))
theorem sM_unnote {K : am_KT} (hK : am_C K) {d : Nat} {σ : am_S} {Q : am_Q} (m0 : 0 ≤ σ 0 3) (m10 : σ 0 3 ≤ 10) (h1 : σ 0 3 = 0 → Q (some (-3)) σ) (h2 : 0 < σ 0 3 → Q (some (σ 0 3 - 1)) (am_us σ 0 3 (σ 0 3 - 1))) : K d mM_unnote 0 [.inr 0] [] σ Q := by
  refine bM_unnote_0 hK ⟨by omega, by omega⟩ (fun g => bM_unnote_5 hK ?_) (fun g => bM_unnote_3 hK (h1 g))
  rw [us_e]
  exact h2 (by omega)
/-- in how many notes in force a letter is -/
noncomputable def nAb (s : Nat) (pa' pb' : Int → Int) (a m : Int) : Int := cnt (fun k => SB s k ∧ (pa' k = a ∨ pb' k = a)) m.toNat
theorem SB_fmk {σ : am_S} {k : Int} (k0 : 0 ≤ k) : SB (fmk σ) k ↔ k < σ 0 3 ∧ σ 8 k = 1 := by
  unfold SB fmk
  rw [mk_bit, show ((k.toNat : Nat) : Int) = k by omega]
  exact ⟨fun z => ⟨by omega, z.2⟩, fun z => ⟨by omega, z.2⟩⟩
theorem cnt_s (p : Int → Prop) {k : Int} (k0 : 0 ≤ k) : cnt p (k + 1).toNat = cnt p k.toNat + ic (p k) 1 0 := by
  rw [show (k + 1).toNat = k.toNat + 1 by omega, cnt, show ((k.toNat : Nat) : Int) = k by omega]
theorem sM_notesAbout {K : am_KT} (hK : am_C K) {d : Nat} {σ : am_S} {Q : am_Q} {a : Int} (ra : am_rng a) (hm : Mok σ) (h : Q (some (nAb (fmk σ) (σ 4) (σ 5) a (σ 0 3))) σ) : K d mM_notesAbout 0 [.inr 0, .inl a] [] σ Q := by
  have n8 : σ 0 0 ≤ 8 := hm.1.1.2
  have m0 : 0 ≤ σ 0 3 := hm.1.2.2.1.1
  have m10 : σ 0 3 ≤ 10 := hm.1.2.2.1.2
  unfold nAb at h
  have loop : ∀ (k : Int) (v : Int), k ≤ σ 0 3 → (0 ≤ k ∧ v = cnt (fun k => SB (fmk σ) k ∧ (σ 4 k = a ∨ σ 5 k = a)) k.toNat) → K d mM_notesAbout 4 [.inr 0, .inl a, .inl v, .inl k] [] σ Q := by
    refine am_up (P := fun k v => 0 ≤ k ∧ v = cnt (fun k => SB (fmk σ) k ∧ (σ 4 k = a ∨ σ 5 k = a)) k.toNat) (C := fun k v => K d mM_notesAbout 4 [.inr 0, .inl a, .inl v, .inl k] [] σ Q) (fun v hp => ?_) (fun k v hk hp ih => ?_)
    · obtain ⟨-, rfl⟩ := hp
      exact bM_notesAbout_4 hK ⟨by omega, by omega⟩ ⟨by omega, by omega⟩ (fun _ => bM_notesAbout_33 hK h) (fun g => absurd g (by omega))
    · obtain ⟨k0, rfl⟩ := hp
      have hf := hm.2 k k0 (by omega)
      obtain ⟨-, v2, v3, -⟩ := hm.1.2.2.2 k k0 hk
      have v2 : 0 ≤ σ 4 k ∧ σ 4 k < σ 0 0 := v2
      have v3 : 0 ≤ σ 5 k ∧ σ 5 k < σ 0 0 := v3
      have hsb := SB_fmk (σ := σ) k0
      have es := cnt_s (fun k => SB (fmk σ) k ∧ (σ 4 k = a ∨ σ 5 k = a)) k0
      have yes : (SB (fmk σ) k ∧ (σ 4 k = a ∨ σ 5 k = a)) → K d mM_notesAbout 26 [.inr 0, .inl a, .inl (cnt (fun k => SB (fmk σ) k ∧ (σ 4 k = a ∨ σ 5 k = a)) k.toNat), .inl k] [.inl (cnt (fun k => SB (fmk σ) k ∧ (σ 4 k = a ∨ σ 5 k = a)) k.toNat)] σ Q := fun q => bM_notesAbout_26 hK (bM_notesAbout_29 hK (ih _ ⟨by omega, by rw [es, ic_t q]⟩))
      have no : ¬ (SB (fmk σ) k ∧ (σ 4 k = a ∨ σ 5 k = a)) → K d mM_notesAbout 28 [.inr 0, .inl a, .inl (cnt (fun k => SB (fmk σ) k ∧ (σ 4 k = a ∨ σ 5 k = a)) k.toNat), .inl k] [.inl (cnt (fun k => SB (fmk σ) k ∧ (σ 4 k = a ∨ σ 5 k = a)) k.toNat)] σ Q := fun q => bM_notesAbout_28 hK (bM_notesAbout_29 hK (ih _ ⟨by omega, by rw [es, ic_f q]⟩))
      refine bM_notesAbout_4 hK ⟨by omega, by omega⟩ ⟨by omega, by omega⟩ (fun g => absurd g (by omega)) (fun _ => ?_)
      refine bM_notesAbout_8 hK (by omega) ⟨by omega, by omega⟩ (fun g => no (fun q => by have := (hsb.mp q.1).2; omega)) (fun g => ?_)
      have hin : SB (fmk σ) k := hsb.mpr ⟨hk, by omega⟩
      refine bM_notesAbout_14 hK (by omega) ⟨by omega, by omega⟩ ra (fun g2 => yes ⟨hin, Or.inl g2⟩) (fun g2 => ?_)
      exact bM_notesAbout_20 hK (by omega) ⟨by omega, by omega⟩ ra (fun g3 => no (fun q => by rcases q.2 with z | z; exact g2 z; exact g3 z)) (fun g3 => yes ⟨hin, Or.inr g3⟩)
  exact bM_notesAbout_0 hK (loop 0 0 m0 ⟨Int.le_refl 0, rfl⟩)
/-- the answer of ofNote -/
noncomputable def aOfNote (m : Int) (c3 c4 c5 c6 c7 : Int → Int) (s : Nat) (k what : Int) : Int := if ¬ (0 ≤ k ∧ k < m) then -1 else if what = 0 then c3 k else if what = 1 then c4 k else if what = 2 then c5 k else if what = 3 then c6 k else if what = 4 then c7 k else if what = 5 then ic (SB s k) 1 0 else -2
theorem sM_ofNote {K : am_KT} (hK : am_C K) {d : Nat} {σ : am_S} {Q : am_Q} {k what : Int} (rk : am_rng k) (rw' : am_rng what) (hm : Mok σ) (h : Q (some (aOfNote (σ 0 3) (σ 3) (σ 4) (σ 5) (σ 6) (σ 7) (fmk σ) k what)) σ) : K (d + 2) mM_ofNote 0 [.inr 0, .inl k, .inl what] [] σ Q := by
  have m0 : 0 ≤ σ 0 3 := hm.1.2.2.1.1
  have m10 : σ 0 3 ≤ 10 := hm.1.2.2.1.2
  unfold aOfNote at h
  refine bM_ofNote_0 (d := d + 1) hK (sM_isNote hK rk m0 m10 (fun r hr => ?_))
  refine bM_ofNote_3 (d := d + 1) hK (r01_g hr) (fun g => ?_) (fun g => bM_ofNote_4 (d := d + 1) hK ?_)
  · have gk := r01_n hr g
    rw [if_neg (fun q => q gk)] at h
    refine bM_ofNote_6 (d := d + 1) hK rw' (fun e => ?_) (fun e => ?_) (fun e => ?_) (fun e => ?_) (fun e => ?_) (fun e => ?_) (fun e => ?_)
    · subst e
      exact bM_ofNote_8 (d := d + 1) hK (by omega) h
    · subst e
      exact bM_ofNote_13 (d := d + 1) hK (by omega) h
    · subst e
      exact bM_ofNote_18 (d := d + 1) hK (by omega) h
    · subst e
      exact bM_ofNote_23 (d := d + 1) hK (by omega) h
    · subst e
      exact bM_ofNote_28 (d := d + 1) hK (by omega) h
    · subst e
      have hf := hm.2 k gk.1 (by omega)
      have hsb := SB_fmk (σ := σ) gk.1
      have h : Q (some (ic (SB (fmk σ) k) 1 0)) σ := h
      refine bM_ofNote_33 (d := d + 1) hK (by omega) ⟨by omega, by omega⟩ (fun g2 => ?_) (fun g2 => ?_)
      · rw [ic_f (fun q => by have := (hsb.mp q).2; omega)] at h
        exact bM_ofNote_40 (d := d + 1) hK (bM_ofNote_41 (d := d + 1) hK h)
      · rw [ic_t (hsb.mpr ⟨gk.2, by omega⟩)] at h
        exact bM_ofNote_38 (d := d + 1) hK (bM_ofNote_41 (d := d + 1) hK h)
    · rw [if_neg (by omega), if_neg (by omega), if_neg (by omega), if_neg (by omega), if_neg (by omega), if_neg (by omega)] at h
      exact bM_ofNote_42 (d := d + 1) hK h
  · rw [if_pos (r01_0 hr g)] at h
    exact h
