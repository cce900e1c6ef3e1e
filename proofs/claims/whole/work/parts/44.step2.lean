/-! one call of both: notes -/
theorem Mok_r {σ σ' : am_S} (h : ∀ c, c < 9 → σ' c = σ c) (hm : Mok σ) : Mok σ' := by
  unfold Mok pbM at hm ⊢
  rw [h 0 (by decide), h 1 (by decide), h 2 (by decide), h 3 (by decide), h 4 (by decide), h 5 (by decide), h 6 (by decide), h 8 (by decide)]
  exact hm
theorem y_note {K : am_KT} (hK : am_C K) {d : Nat} {σ : am_S} {so a b dd w : Int} (rs : am_rng so) (ra : am_rng a) (rb : am_rng b) (rd : am_rng dd) (rw' : am_rng w) (hi : Inv σ) : Both K (d + 16) mD_note mM_note [.inl so, .inl a, .inl b, .inl dd, .inl w] σ := by
  obtain ⟨hm, hw, hc⟩ := hi.1
  have n0 : 0 ≤ σ 0 0 := hm.1.1.1
  have n8 : σ 0 0 ≤ 8 := hm.1.1.2
  have m0 : 0 ≤ σ 0 3 := hm.1.2.2.1.1
  have m10 : σ 0 3 ≤ 10 := hm.1.2.2.1.2
  have e17 := hc.1
  have e20 := hc.2.1
  refine sD_note hK rs ra rb rd rw' (by omega) (by omega) (by omega) (by omega) (fun q => ⟨_, rfl, rfl, ?_⟩) (fun q q2 => ⟨_, rfl, rfl, ?_⟩) (fun q q2 q3 => ⟨_, rfl, rfl, ?_⟩) (fun q q2 q3 q4 => ⟨_, rfl, rfl, ?_⟩) (fun q q2 q3 q4 σ1 u => ⟨_, rfl, ?_, ?_⟩)
  · exact sM_note hK rs ra rb rd rw' n0 n8 m0 m10 (fun _ => ⟨rfl, hi, rfl⟩) (fun z => absurd z q) (fun z => absurd z q) (fun z => absurd z q) (fun z => absurd z q)
  · rw [e17] at q2
    exact sM_note hK rs ra rb rd rw' n0 n8 m0 m10 (fun z => absurd q z) (fun _ _ => ⟨rfl, hi, rfl⟩) (fun _ z => absurd z q2) (fun _ z => absurd z q2) (fun _ z => absurd z q2)
  · rw [e17] at q2
    exact sM_note hK rs ra rb rd rw' n0 n8 m0 m10 (fun z => absurd q z) (fun _ z => absurd q2 z) (fun _ _ _ => ⟨rfl, hi, rfl⟩) (fun _ _ z => absurd z q3) (fun _ _ z => absurd z q3)
  · rw [e17] at q2
    exact sM_note hK rs ra rb rd rw' n0 n8 m0 m10 (fun z => absurd q z) (fun _ z => absurd q2 z) (fun _ _ z => absurd q3 z) (fun _ _ _ _ => ⟨rfl, hi, rfl⟩) (fun _ _ _ z => by omega)
  · exact u.1 60 (by decide) (by decide) (by decide)
  · rw [e17] at q2
    obtain ⟨u0, c0, c1, us, ua, ub, ud, uw, u26, u41⟩ := u
    rw [e20] at q4 c0 c1 us ua ub ud uw
    have a0 : σ1 0 = σ 0 := u0 0 (by decide) (by decide) (by decide)
    refine sM_note hK rs ra rb rd rw' (by rw [a0]; exact n0) (by rw [a0]; exact n8) (by rw [a0]; exact m0) (by rw [a0]; exact m10) (fun z => absurd q z) (fun _ z => absurd (by rw [a0]; exact q2) z) (fun _ _ z => absurd q3 z) (fun _ _ _ z => by rw [a0] at z; omega) (fun _ _ _ _ => ?_)
    unfold stNote
    rw [a0, e20]
    generalize hM : σ 0 3 = M at m0 m10 q4 c0 c1 us ua ub ud uw
    generalize hτ : am_us (am_us (am_us (am_us (am_us (am_us (am_us σ1 3 M so) 4 M a) 5 M b) 6 M dd) 7 M w) 8 M 1) 0 3 (M + 1) = τ
    have t03 : τ 0 3 = M + 1 := by rw [← hτ, us_e]
    have t00 : τ 0 0 = σ 0 0 := by rw [← hτ, us_n _ _ _ (by decide), us_o _ _ _ (by decide), us_o _ _ _ (by decide), us_o _ _ _ (by decide), us_o _ _ _ (by decide), us_o _ _ _ (by decide), us_o _ _ _ (by decide), a0]
    have tc : ∀ c, c ≠ 0 → (c < 3 ∨ 8 < c) → τ c = σ1 c := fun c h0 h => by rw [← hτ, us_o _ _ _ h0, us_o _ _ _ (by omega), us_o _ _ _ (by omega), us_o _ _ _ (by omega), us_o _ _ _ (by omega), us_o _ _ _ (by omega), us_o _ _ _ (by omega)]
    have s1 : ∀ c, c < 20 → σ1 c = σ c := fun c h => u0 c (by omega) (by omega) (by omega)
    have t3 : ∀ k, τ 3 k = if k = M then so else σ 3 k := fun k => by rw [← hτ, us_o _ _ _ (by decide), us_o _ _ _ (by decide), us_o _ _ _ (by decide), us_o _ _ _ (by decide), us_o _ _ _ (by decide), us_o _ _ _ (by decide), us_s, s1 3 (by decide)]
    have t4 : ∀ k, τ 4 k = if k = M then a else σ 4 k := fun k => by rw [← hτ, us_o _ _ _ (by decide), us_o _ _ _ (by decide), us_o _ _ _ (by decide), us_o _ _ _ (by decide), us_o _ _ _ (by decide), us_s, us_o _ _ _ (by decide), s1 4 (by decide)]
    have t5 : ∀ k, τ 5 k = if k = M then b else σ 5 k := fun k => by rw [← hτ, us_o _ _ _ (by decide), us_o _ _ _ (by decide), us_o _ _ _ (by decide), us_o _ _ _ (by decide), us_s, us_o _ _ _ (by decide), us_o _ _ _ (by decide), s1 5 (by decide)]
    have t6 : ∀ k, τ 6 k = if k = M then dd else σ 6 k := fun k => by rw [← hτ, us_o _ _ _ (by decide), us_o _ _ _ (by decide), us_o _ _ _ (by decide), us_s, us_o _ _ _ (by decide), us_o _ _ _ (by decide), us_o _ _ _ (by decide), s1 6 (by decide)]
    have t7 : ∀ k, τ 7 k = if k = M then w else σ 7 k := fun k => by rw [← hτ, us_o _ _ _ (by decide), us_o _ _ _ (by decide), us_s, us_o _ _ _ (by decide), us_o _ _ _ (by decide), us_o _ _ _ (by decide), us_o _ _ _ (by decide), s1 7 (by decide)]
    have t8 : ∀ k, τ 8 k = if k = M then 1 else σ 8 k := fun k => by rw [← hτ, us_o _ _ _ (by decide), us_s, us_o _ _ _ (by decide), us_o _ _ _ (by decide), us_o _ _ _ (by decide), us_o _ _ _ (by decide), us_o _ _ _ (by decide), s1 8 (by decide)]
    obtain ⟨⟨v1, v2, v3, v4⟩, vf⟩ := id hm
    obtain ⟨BL, b1, b2, b3⟩ := hi.2.2
    have ef : fmk τ = fmk σ ||| 2 ^ M.toNat := by
      unfold fmk
      rw [t03, hM, mk_s _ m0, icn_t (show τ 8 M = 1 by rw [t8, if_pos rfl])]
      congr 1
      refine mk_cong _ (fun k hk => ?_)
      rw [t8, if_neg (by omega)]
    have hF := fmk_lt hm
    have eF : am_or (σ 20 1) (am_shl 1 M) = ((fmk σ ||| 2 ^ M.toNat : Nat) : Int) := by
      rw [hc.2.2.2.2, shl_i m0 (by omega), or_nat (by omega) (by have := pow_le10 (k := M) (by omega); omega)]
    refine ⟨rfl, ⟨⟨⟨⟨?_, fun x x0 xn => ?_, ?_, fun k k0 k1 => ?_⟩, fun k k0 k1 => ?_⟩, fun k k0 k1 => ?_, ?_, ?_, fun x x0 xn => ?_, fun k k0 k1 => ?_, ?_⟩, ⟨Or.inl ?_, Or.inl ?_⟩, BL, MBd_s ?_ ?_ b1, CBd_eq (fun c h1 h2 => ?_) b2, ?_⟩, ?_⟩
    · show 0 ≤ τ 0 0 ∧ τ 0 0 ≤ 8
      omega
    · have xn : x < τ 0 0 := xn
      rw [t00] at xn
      show 0 ≤ τ 1 x ∧ τ 1 x ≤ τ 2 x ∧ τ 2 x ≤ 199
      rw [tc 1 (by decide) (by decide), tc 2 (by decide) (by decide), s1 1 (by decide), s1 2 (by decide)]
      exact v2 x x0 xn
    · show 0 ≤ τ 0 3 ∧ τ 0 3 ≤ 10
      omega
    · have k1 : k < τ 0 3 := k1
      show (0 ≤ τ 3 k ∧ τ 3 k ≤ 4) ∧ (0 ≤ τ 4 k ∧ τ 4 k < τ 0 0) ∧ (0 ≤ τ 5 k ∧ τ 5 k < τ 0 0) ∧ (τ 3 k ≤ 1 → τ 4 k ≠ τ 5 k ∧ τ 6 k ≤ 99) ∧ (2 ≤ τ 3 k → τ 5 k = τ 4 k) ∧ (0 ≤ τ 6 k ∧ τ 6 k ≤ 199) ∧ (τ 3 k = 4 → τ 6 k ≤ 6)
      rw [t3, t4, t5, t6, t00]
      by_cases e : k = M
      · rw [if_pos e, if_pos e, if_pos e, if_pos e]
        obtain ⟨g1, g2, g3⟩ := q2
        obtain ⟨g4, -⟩ := q3
        unfold nmost at g4
        refine ⟨q, g1, g2, fun z => ⟨g3.mp z, ?_⟩, fun z => ?_, ?_, fun z => ?_⟩
        · rw [if_pos z] at g4
          exact g4.2
        · rcases ilt a b with z2 | z2
          · have := g3.mpr (by omega)
            omega
          · by_cases z3 : a = b
            · exact z3.symm
            · have := g3.mpr z3
              omega
        · split at g4
          · omega
          · split at g4 <;> omega
        · rw [if_neg (by omega), if_pos z] at g4
          exact g4.2
      · rw [if_neg e, if_neg e, if_neg e, if_neg e]
        exact v4 k k0 (by show k < σ 0 3; omega)
    · rw [t8]
      by_cases e : k = M
      · rw [if_pos e]
        exact Or.inr rfl
      · rw [if_neg e]
        exact vf k k0 k1
    · rw [t03] at k1
      rw [t7]
      by_cases e : k = M
      · rw [if_pos e]
        exact q3.2
      · rw [if_neg e]
        exact hw k k0 (by omega)
    · rw [t00, tc 17 (by decide) (by decide), s1 17 (by decide)]
      exact e17
    · rw [t03, tc 20 (by decide) (by decide)]
      exact c0
    · rw [t00] at xn
      rw [tc 18 (by decide) (by decide), tc 19 (by decide) (by decide), tc 1 (by decide) (by decide), tc 2 (by decide) (by decide), s1 18 (by decide), s1 19 (by decide), s1 1 (by decide), s1 2 (by decide)]
      exact hc.2.2.1 x x0 xn
    · rw [t03] at k1
      rw [tc 21 (by decide) (by decide), tc 22 (by decide) (by decide), tc 23 (by decide) (by decide), tc 24 (by decide) (by decide), tc 25 (by decide) (by decide), us, ua, ub, ud, uw, t3, t4, t5, t6, t7]
      by_cases e : k = M
      · rw [if_pos e, if_pos e, if_pos e, if_pos e, if_pos e, if_pos e, if_pos e, if_pos e, if_pos e, if_pos e]
        exact ⟨rfl, rfl, rfl, rfl, rfl⟩
      · rw [if_neg e, if_neg e, if_neg e, if_neg e, if_neg e, if_neg e, if_neg e, if_neg e, if_neg e, if_neg e]
        exact hc.2.2.2.1 k k0 (by omega)
    · rw [tc 20 (by decide) (by decide), c1, ef, eF]
    · rw [tc 26 (by decide) (by decide)]
      exact u26
    · rw [tc 41 (by decide) (by decide)]
      exact u41
    · rw [tc 14 (by decide) (by decide)]
      exact s1 14 (by decide)
    · rw [tc 15 (by decide) (by decide)]
      exact s1 15 (by decide)
    · rw [tc c (by omega) (by omega)]
      exact u0 c (by omega) (by omega) (by omega)
    · rw [t00]
      exact b3
    · rw [tc 60 (by decide) (by decide)]
      exact u0 60 (by decide) (by decide) (by decide)
theorem y_force {K : am_KT} (hK : am_C K) {d : Nat} {σ : am_S} {x v : Int} (rx : am_rng x) (hv : v = 0 ∨ v = 1) (hi : Inv σ) : Both K (d + 16) mD_force mM_force [.inl x, .inl v] σ := by
  obtain ⟨hm, hw, hc⟩ := id hi.1
  have m0 : 0 ≤ σ 0 3 := hm.1.2.2.1.1
  have m10 : σ 0 3 ≤ 10 := hm.1.2.2.1.2
  have e20 := hc.2.1
  have hF := fmk_lt hm
  have sb : (0 ≤ x ∧ x < σ 0 3) → ((SB (fmk σ) x ↔ v = 1) ↔ σ 8 x = v) := fun q => by
    rw [SB_fmk q.1]
    have f01 := hm.2 x q.1 (by omega)
    constructor
    · intro z
      by_cases z1 : σ 8 x = 1
      · have := z.mp ⟨q.2, z1⟩
        omega
      · by_cases z2 : v = 1
        · exact absurd (z.mpr z2).2 z1
        · omega
    · intro z
      exact ⟨fun y => by omega, fun y => ⟨q.2, by omega⟩⟩
  refine sD_force hK rx hv (CI_c hi.1 hi.2.1).1 (fun q => ⟨_, rfl, rfl, ?_⟩) (fun q q2 => ⟨_, rfl, rfl, ?_⟩) (fun q q2 => ⟨_, rfl, ?_, ?_⟩)
  · rw [e20] at q
    exact sM_force hK rx hv hm (fun _ => ⟨rfl, hi, rfl⟩) (fun z => absurd z q) (fun z => absurd z q)
  · rw [e20] at q
    rw [F_c hc, sb q] at q2
    exact sM_force hK rx hv hm (fun z => absurd q z) (fun _ _ => ⟨rfl, hi, rfl⟩) (fun _ z => absurd q2 z)
  · rw [fgt_o _ (by decide), us_o _ _ _ (by decide)]
  · rw [e20] at q
    rw [F_c hc] at q2
    have q3 : σ 8 x ≠ v := fun z => q2 ((sb q).mpr z)
    generalize hσ : fgt (am_us σ 20 1 (am_xor (σ 20 1) (am_shl 1 x))) = σ1
    have u0 : ∀ c, c ≠ 20 → c ≠ 26 → c ≠ 41 → σ1 c = σ c := fun c h2 h4 h5 => by rw [← hσ, fgt_o _ ⟨h4, h5⟩, us_o _ _ _ h2]
    have c0 : σ1 20 0 = σ 20 0 := by rw [← hσ, fgt_o _ (by decide), us_n _ _ _ (by decide)]
    have c1 : σ1 20 1 = am_xor (σ 20 1) (am_shl 1 x) := by rw [← hσ, fgt_o _ (by decide), us_e]
    have u26 : σ1 26 0 = 0 := by rw [← hσ]; exact fgt_26 _
    have u41 : σ1 41 0 = 0 := by rw [← hσ]; exact fgt_41 _
    have s1 : ∀ c, c < 20 → σ1 c = σ c := fun c h => u0 c (by omega) (by omega) (by omega)
    refine sM_force hK rx hv (Mok_r (fun c h => s1 c (by omega)) hm) (fun z => absurd q (by rw [s1 0 (by decide)] at z; exact z)) (fun _ z => absurd (by rw [s1 8 (by decide)] at z; exact z) q3) (fun _ _ => ?_)
    generalize hτ : am_us σ1 8 x v = τ
    have t8 : ∀ k, τ 8 k = if k = x then v else σ 8 k := fun k => by rw [← hτ, us_s, s1 8 (by decide)]
    have tc : ∀ c, c ≠ 8 → τ c = σ1 c := fun c h => by rw [← hτ, us_o _ _ _ h]
    have td : ∀ c, c ≠ 8 → c ≠ 20 → c ≠ 26 → c ≠ 41 → τ c = σ c := fun c h h2 h3 h4 => (tc c h).trans (u0 c h2 h3 h4)
    have e0 : τ 0 = σ 0 := td 0 (by decide) (by decide) (by decide) (by decide)
    obtain ⟨⟨v1, v2, v3, v4⟩, vf⟩ := id hm
    obtain ⟨BL, b1, b2, b3⟩ := hi.2.2
    have px := pow_le10 (k := x) (by omega)
    have ef : fmk τ = fmk σ ^^^ 2 ^ x.toNat := by
      apply Nat.eq_of_testBit_eq
      intro i
      rw [Nat.testBit_xor, Nat.testBit_two_pow]
      unfold fmk
      rw [e0]
      by_cases e : x.toNat = i
      · subst e
        rw [decide_eq_true rfl, Bool.xor_true]
        have hb := mk_bit (fun k => σ 8 k = 1) (σ 0 3).toNat x.toNat
        have hb2 := mk_bit (fun k => τ 8 k = 1) (σ 0 3).toNat x.toNat
        rw [show ((x.toNat : Nat) : Int) = x by omega] at hb hb2
        rw [t8, if_pos rfl] at hb2
        have f01 := hm.2 x q.1 (by omega)
        cases g1 : (mk (fun k => σ 8 k = 1) (σ 0 3).toNat).testBit x.toNat with
        | true =>
          have := (hb.mp g1).2
          cases g2 : (mk (fun k => τ 8 k = 1) (σ 0 3).toNat).testBit x.toNat with
          | true =>
            have := (hb2.mp g2).2
            omega
          | false => rfl
        | false =>
          cases g2 : (mk (fun k => τ 8 k = 1) (σ 0 3).toNat).testBit x.toNat with
          | true => rfl
          | false =>
            exfalso
            have n1 : ¬ σ 8 x = 1 := fun z => by
              rw [hb.mpr ⟨by omega, z⟩] at g1
              cases g1
            have n2 : ¬ v = 1 := fun z => by
              rw [hb2.mpr ⟨by omega, z⟩] at g2
              cases g2
            omega
      · rw [decide_eq_false e, Bool.xor_false, Bool.eq_iff_iff, mk_bit, mk_bit, t8, if_neg (by omega)]
    have eF : am_xor (σ 20 1) (am_shl 1 x) = ((fmk σ ^^^ 2 ^ x.toNat : Nat) : Int) := by
      rw [hc.2.2.2.2, shl_i q.1 (by omega), xor_nat (by omega) (by omega)]
    refine ⟨rfl, ⟨⟨⟨⟨?_, fun a a0 an => ?_, ?_, fun k k0 k1 => ?_⟩, fun k k0 k1 => ?_⟩, ?_, ?_⟩, ⟨Or.inl ?_, Or.inl ?_⟩, BL, MBd_s ?_ ?_ b1, CBd_eq (fun c h1 h2 => ?_) b2, ?_⟩, ?_⟩
    · show 0 ≤ τ 0 0 ∧ τ 0 0 ≤ 8
      rw [e0]
      exact v1
    · have an : a < τ 0 0 := an
      rw [e0] at an
      show 0 ≤ τ 1 a ∧ τ 1 a ≤ τ 2 a ∧ τ 2 a ≤ 199
      rw [td 1 (by decide) (by decide) (by decide) (by decide), td 2 (by decide) (by decide) (by decide) (by decide)]
      exact v2 a a0 an
    · show 0 ≤ τ 0 3 ∧ τ 0 3 ≤ 10
      rw [e0]
      exact v3
    · have k1 : k < τ 0 3 := k1
      rw [e0] at k1
      show (0 ≤ τ 3 k ∧ τ 3 k ≤ 4) ∧ (0 ≤ τ 4 k ∧ τ 4 k < τ 0 0) ∧ (0 ≤ τ 5 k ∧ τ 5 k < τ 0 0) ∧ (τ 3 k ≤ 1 → τ 4 k ≠ τ 5 k ∧ τ 6 k ≤ 99) ∧ (2 ≤ τ 3 k → τ 5 k = τ 4 k) ∧ (0 ≤ τ 6 k ∧ τ 6 k ≤ 199) ∧ (τ 3 k = 4 → τ 6 k ≤ 6)
      rw [td 3 (by decide) (by decide) (by decide) (by decide), td 4 (by decide) (by decide) (by decide) (by decide), td 5 (by decide) (by decide) (by decide) (by decide), td 6 (by decide) (by decide) (by decide) (by decide), e0]
      exact v4 k k0 k1
    · rw [t8]
      split
      · exact hv
      · exact vf k k0 k1
    · unfold Wok
      rw [e0, td 7 (by decide) (by decide) (by decide) (by decide)]
      exact hw
    · unfold Cpl
      rw [ef, e0, tc 20 (by decide), c0, c1, eF, td 1 (by decide) (by decide) (by decide) (by decide), td 2 (by decide) (by decide) (by decide) (by decide), td 3 (by decide) (by decide) (by decide) (by decide), td 4 (by decide) (by decide) (by decide) (by decide), td 5 (by decide) (by decide) (by decide) (by decide), td 6 (by decide) (by decide) (by decide) (by decide), td 7 (by decide) (by decide) (by decide) (by decide), td 17 (by decide) (by decide) (by decide) (by decide), td 18 (by decide) (by decide) (by decide) (by decide), td 19 (by decide) (by decide) (by decide) (by decide), td 21 (by decide) (by decide) (by decide) (by decide), td 22 (by decide) (by decide) (by decide) (by decide), td 23 (by decide) (by decide) (by decide) (by decide), td 24 (by decide) (by decide) (by decide) (by decide), td 25 (by decide) (by decide) (by decide) (by decide)]
      exact ⟨hc.1, hc.2.1, hc.2.2.1, hc.2.2.2.1, rfl⟩
    · rw [tc 26 (by decide)]
      exact u26
    · rw [tc 41 (by decide)]
      exact u41
    · exact td 14 (by decide) (by decide) (by decide) (by decide)
    · exact td 15 (by decide) (by decide) (by decide) (by decide)
    · exact td c (by omega) (by omega) (by omega) (by omega)
    · rw [e0]
      exact b3
    · exact td 60 (by decide) (by decide) (by decide) (by decide)
theorem y_unnote {K : am_KT} (hK : am_C K) {d : Nat} {σ : am_S} (hi : Inv σ) : Both K (d + 16) mD_unnote mM_unnote [] σ := by
  obtain ⟨hm, hw, hc⟩ := id hi.1
  have m0 : 0 ≤ σ 0 3 := hm.1.2.2.1.1
  have m10 : σ 0 3 ≤ 10 := hm.1.2.2.1.2
  have e20 := hc.2.1
  have hF := fmk_lt hm
  refine sD_unnote hK (by omega) (by omega) (fun q => ⟨_, rfl, rfl, ?_⟩) (fun q => ⟨_, rfl, ?_, ?_⟩)
  · exact sM_unnote hK m0 m10 (fun _ => ⟨rfl, hi, rfl⟩) (fun z => by omega)
  · rw [fgt_o _ (by decide), us_o _ _ _ (by decide), us_o _ _ _ (by decide)]
  · rw [e20] at q ⊢
    generalize hσ : fgt (am_us (am_us σ 20 0 (σ 0 3 - 1)) 20 1 (am_and (σ 20 1) (am_xor (am_shl 1 (σ 0 3 - 1)) (-1)))) = σ1
    have u0 : ∀ c, c ≠ 20 → c ≠ 26 → c ≠ 41 → σ1 c = σ c := fun c h2 h4 h5 => by rw [← hσ, fgt_o _ ⟨h4, h5⟩, us_o _ _ _ h2, us_o _ _ _ h2]
    have c0 : σ1 20 0 = σ 0 3 - 1 := by rw [← hσ, fgt_o _ (by decide), us_n _ _ _ (by decide), us_e]
    have c1 : σ1 20 1 = am_and (σ 20 1) (am_xor (am_shl 1 (σ 0 3 - 1)) (-1)) := by rw [← hσ, fgt_o _ (by decide), us_e]
    have u26 : σ1 26 0 = 0 := by rw [← hσ]; exact fgt_26 _
    have u41 : σ1 41 0 = 0 := by rw [← hσ]; exact fgt_41 _
    have s1 : ∀ c, c < 20 → σ1 c = σ c := fun c h => u0 c (by omega) (by omega) (by omega)
    refine sM_unnote hK (by rw [s1 0 (by decide)]; exact m0) (by rw [s1 0 (by decide)]; exact m10) (fun z => by rw [s1 0 (by decide)] at z; omega) (fun _ => ?_)
    rw [s1 0 (by decide)]
    generalize hτ : am_us σ1 0 3 (σ 0 3 - 1) = τ
    have t03 : τ 0 3 = σ 0 3 - 1 := by rw [← hτ, us_e]
    have t00 : τ 0 0 = σ 0 0 := by rw [← hτ, us_n _ _ _ (by decide), s1 0 (by decide)]
    have tc : ∀ c, c ≠ 0 → τ c = σ1 c := fun c h => by rw [← hτ, us_o _ _ _ h]
    have td : ∀ c, c ≠ 0 → c ≠ 20 → c ≠ 26 → c ≠ 41 → τ c = σ c := fun c h h2 h3 h4 => (tc c h).trans (u0 c h2 h3 h4)
    obtain ⟨⟨v1, v2, v3, v4⟩, vf⟩ := id hm
    obtain ⟨BL, b1, b2, b3⟩ := hi.2.2
    have ef : nd (fmk σ) (2 ^ (σ 0 3 - 1).toNat) = fmk τ := by
      apply Nat.eq_of_testBit_eq
      intro i
      rw [nd_bit, Nat.testBit_two_pow]
      unfold fmk
      rw [t03, td 8 (by decide) (by decide) (by decide) (by decide)]
      by_cases e : (σ 0 3 - 1).toNat = i
      · rw [decide_eq_true e]
        cases g : (mk (fun k => σ 8 k = 1) (σ 0 3 - 1).toNat).testBit i with
        | true =>
          have := ((mk_bit _ _ _).mp g).1
          omega
        | false => simp
      · rw [decide_eq_false e, Bool.not_false, Bool.and_true, Bool.eq_iff_iff, mk_bit, mk_bit]
        exact ⟨fun z => ⟨by omega, z.2⟩, fun z => ⟨by omega, z.2⟩⟩
    have eF : am_and (σ 20 1) (am_xor (am_shl 1 (σ 0 3 - 1)) (-1)) = (fmk τ : Int) := by
      rw [← ef, hc.2.2.2.2, shl_i (by omega) (by omega)]
      exact andn_nat (by omega)
    refine ⟨rfl, ⟨⟨⟨⟨?_, fun a a0 an => ?_, ?_, fun k k0 k1 => ?_⟩, ?_⟩, fun k k0 k1 => ?_, ?_⟩, ⟨Or.inl ?_, Or.inl ?_⟩, BL, MBd_s ?_ ?_ b1, CBd_eq (fun c h1 h2 => ?_) b2, ?_⟩, ?_⟩
    · show 0 ≤ τ 0 0 ∧ τ 0 0 ≤ 8
      rw [t00]
      exact v1
    · have an : a < τ 0 0 := an
      rw [t00] at an
      show 0 ≤ τ 1 a ∧ τ 1 a ≤ τ 2 a ∧ τ 2 a ≤ 199
      rw [td 1 (by decide) (by decide) (by decide) (by decide), td 2 (by decide) (by decide) (by decide) (by decide)]
      exact v2 a a0 an
    · show 0 ≤ τ 0 3 ∧ τ 0 3 ≤ 10
      omega
    · have k1 : k < τ 0 3 := k1
      show (0 ≤ τ 3 k ∧ τ 3 k ≤ 4) ∧ (0 ≤ τ 4 k ∧ τ 4 k < τ 0 0) ∧ (0 ≤ τ 5 k ∧ τ 5 k < τ 0 0) ∧ (τ 3 k ≤ 1 → τ 4 k ≠ τ 5 k ∧ τ 6 k ≤ 99) ∧ (2 ≤ τ 3 k → τ 5 k = τ 4 k) ∧ (0 ≤ τ 6 k ∧ τ 6 k ≤ 199) ∧ (τ 3 k = 4 → τ 6 k ≤ 6)
      rw [td 3 (by decide) (by decide) (by decide) (by decide), td 4 (by decide) (by decide) (by decide) (by decide), td 5 (by decide) (by decide) (by decide) (by decide), td 6 (by decide) (by decide) (by decide) (by decide), t00]
      exact v4 k k0 (by show k < σ 0 3; omega)
    · rw [td 8 (by decide) (by decide) (by decide) (by decide)]
      exact vf
    · rw [t03] at k1
      rw [td 7 (by decide) (by decide) (by decide) (by decide)]
      exact hw k k0 (by omega)
    · unfold Cpl
      rw [← eF, t00, t03, tc 20 (by decide), c0, c1, td 1 (by decide) (by decide) (by decide) (by decide), td 2 (by decide) (by decide) (by decide) (by decide), td 3 (by decide) (by decide) (by decide) (by decide), td 4 (by decide) (by decide) (by decide) (by decide), td 5 (by decide) (by decide) (by decide) (by decide), td 6 (by decide) (by decide) (by decide) (by decide), td 7 (by decide) (by decide) (by decide) (by decide), td 17 (by decide) (by decide) (by decide) (by decide), td 18 (by decide) (by decide) (by decide) (by decide), td 19 (by decide) (by decide) (by decide) (by decide), td 21 (by decide) (by decide) (by decide) (by decide), td 22 (by decide) (by decide) (by decide) (by decide), td 23 (by decide) (by decide) (by decide) (by decide), td 24 (by decide) (by decide) (by decide) (by decide), td 25 (by decide) (by decide) (by decide) (by decide)]
      exact ⟨hc.1, rfl, hc.2.2.1, fun k k0 k1 => hc.2.2.2.1 k k0 (by omega), rfl⟩
    · rw [tc 26 (by decide)]
      exact u26
    · rw [tc 41 (by decide)]
      exact u41
    · exact td 14 (by decide) (by decide) (by decide) (by decide)
    · exact td 15 (by decide) (by decide) (by decide) (by decide)
    · exact td c (by omega) (by omega) (by omega) (by omega)
    · rw [t00]
      exact b3
    · exact td 60 (by decide) (by decide) (by decide) (by decide)
