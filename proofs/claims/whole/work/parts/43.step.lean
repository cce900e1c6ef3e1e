/-! one call of both: those that change letters, notes, bundles -/
theorem MBd_s {σ σ' : am_S} {BL : Int → List Int} (h4 : σ' 14 = σ 14) (h5 : σ' 15 = σ 15) (hB : MBd σ BL) : MBd σ' BL := by
  unfold MBd at hB ⊢
  rw [h4, h5]
  exact hB
theorem BV_up {n n' : Int} {BL : Int → List Int} (h : n ≤ n') (hV : BV n BL) : BV n' BL := fun b b0 b3 => ⟨(hV b b0 b3).1, fun a ha => by have := (hV b b0 b3).2 a ha; omega⟩
theorem y_ofNote {K : am_KT} (hK : am_C K) {d : Nat} {σ : am_S} {a b : Int} (ra : am_rng a) (rb : am_rng b) (hi : Inv σ) : Both K (d + 16) mD_ofNote mM_ofNote [.inl a, .inl b] σ := by
  have hc := hi.1.2.2
  refine sD_ofNote hK ra rb (CI_c hi.1 hi.2.1).1 ⟨_, rfl, rfl, ?_⟩
  have e : aOfNote (σ 20 0) (σ 21) (σ 22) (σ 23) (σ 24) (σ 25) (σ 20 1).toNat a b = aOfNote (σ 0 3) (σ 3) (σ 4) (σ 5) (σ 6) (σ 7) (fmk σ) a b := by
    unfold aOfNote
    rw [hc.2.1, F_c hc]
    by_cases q : 0 ≤ a ∧ a < σ 0 3
    · have nq : ¬ ¬ (0 ≤ a ∧ a < σ 0 3) := fun z => z q
      rw [if_neg nq, if_neg nq]
      obtain ⟨e1, e2, e3, e4, e5⟩ := hc.2.2.2.1 a q.1 q.2
      rw [e1, e2, e3, e4, e5]
    · rw [if_pos q, if_pos q]
  rw [e]
  exact sM_ofNote hK ra rb hi.1.1 ⟨rfl, hi, rfl⟩
theorem nAb_c {σ : am_S} (hc : Cpl σ) (m0 : 0 ≤ σ 0 3) (s : Nat) (a : Int) : nAb s (σ 22) (σ 23) a (σ 0 3) = nAb s (σ 4) (σ 5) a (σ 0 3) := by
  unfold nAb
  refine cnt_cong _ (fun k hk => ?_)
  obtain ⟨-, e2, e3, -⟩ := hc.2.2.2.1 (k : Int) (by omega) (by omega)
  show (SB s (k : Int) ∧ (σ 22 (k : Int) = a ∨ σ 23 (k : Int) = a)) ↔ (SB s (k : Int) ∧ (σ 4 (k : Int) = a ∨ σ 5 (k : Int) = a))
  rw [e2, e3]
theorem y_ofLetter {K : am_KT} (hK : am_C K) {d : Nat} {σ : am_S} {a b : Int} (ra : am_rng a) (rb : am_rng b) (hi : Inv σ) : Both K (d + 16) mD_ofLetter mM_ofLetter [.inl a, .inl b] σ := by
  have hc := hi.1.2.2
  obtain ⟨BL, b1, b2, b3⟩ := hi.2.2
  have b4 : BV (σ 17 0) BL := by rw [hc.1]; exact b3
  refine sD_ofLetter hK ra rb (CI_c hi.1 hi.2.1).1 b2 b4 ⟨_, rfl, rfl, ?_⟩
  have e : aOfLetter (σ 17 0) (σ 20 0) (σ 18) (σ 19) (σ 20 1).toNat (σ 22) (σ 23) BL a b = aOfLetter (σ 0 0) (σ 0 3) (σ 1) (σ 2) (fmk σ) (σ 4) (σ 5) BL a b := by
    unfold aOfLetter
    rw [hc.1, hc.2.1, F_c hc, nAb_c hc hi.1.1.1.2.2.1.1]
    by_cases q : 0 ≤ a ∧ a < σ 0 0
    · have nq : ¬ ¬ (0 ≤ a ∧ a < σ 0 0) := fun z => z q
      rw [if_neg nq, if_neg nq]
      obtain ⟨e1, e2⟩ := hc.2.2.1 a q.1 q.2
      rw [e1, e2]
    · rw [if_pos q, if_pos q]
  rw [e]
  exact sM_ofLetter hK ra rb hi.1.1 b1 b3 ⟨rfl, hi, rfl⟩
theorem y_lies {K : am_KT} (hK : am_C K) {d : Nat} {σ : am_S} {a b : Int} (ra : am_rng a) (rb : am_rng b) (hi : Inv σ) : Both K (d + 16) mD_lies mM_lies [.inl a, .inl b] σ := by
  obtain ⟨BL, b1, b2, b3⟩ := hi.2.2
  refine sD_lies hK ra rb b2 ⟨_, rfl, rfl, ?_⟩
  exact sM_lies hK ra rb b1 ⟨rfl, hi, rfl⟩
theorem y_many {K : am_KT} (hK : am_C K) {d : Nat} {σ : am_S} {a : Int} (ra : am_rng a) (hi : Inv σ) : Both K (d + 16) mD_many mM_many [.inl a] σ := by
  have hc := hi.1.2.2
  obtain ⟨BL, b1, b2, b3⟩ := hi.2.2
  refine sD_many hK ra (CI_c hi.1 hi.2.1).1 b2 ⟨_, rfl, rfl, ?_⟩
  have e : aMany (σ 17 0) (σ 20 0) (σ 20 1).toNat (σ 25) BL a = aMany (σ 0 0) (σ 0 3) (fmk σ) (σ 7) BL a := by
    unfold aMany
    rw [hc.1, hc.2.1, F_c hc, wtS_cong (wt := σ 25) (wt' := σ 7) (fun k k0 k1 => (hc.2.2.2.1 k k0 k1).2.2.2.2)]
  rw [e]
  exact sM_many hK ra hi.1.1 b1 ⟨rfl, hi, rfl⟩
/-! letters -/
theorem y_letter {K : am_KT} (hK : am_C K) {d : Nat} {σ : am_S} {f l : Int} (rf : am_rng f) (rl : am_rng l) (hi : Inv σ) : Both K (d + 16) mD_letter mM_letter [.inl f, .inl l] σ := by
  obtain ⟨hm, hw, hc⟩ := hi.1
  have n0 : 0 ≤ σ 0 0 := hm.1.1.1
  have n8 : σ 0 0 ≤ 8 := hm.1.1.2
  have e17 := hc.1
  refine sD_letter hK rf rl (by omega) (by omega) (fun q => ⟨_, rfl, rfl, ?_⟩) (fun q q2 => ⟨_, rfl, rfl, ?_⟩) (fun q q2 => ⟨_, rfl, ?_, ?_⟩)
  · exact sM_letter hK rf rl n0 n8 (fun _ => ⟨rfl, hi, rfl⟩) (fun z => absurd z q) (fun z => absurd z q)
  · exact sM_letter hK rf rl n0 n8 (fun z => absurd q z) (fun _ _ => ⟨rfl, hi, rfl⟩) (fun _ z => by omega)
  · unfold cLet
    rw [fgt_o _ (by decide), us_o _ _ _ (by decide), us_o _ _ _ (by decide), us_o _ _ _ (by decide)]
  · have u0 : ∀ c, c ≠ 17 → c ≠ 18 → c ≠ 19 → c ≠ 26 → c ≠ 41 → cLet σ f l c = σ c := fun c h1 h2 h3 h4 h5 => by
      unfold cLet
      rw [fgt_o _ ⟨h4, h5⟩, us_o _ _ _ h3, us_o _ _ _ h2, us_o _ _ _ h1]
    have u17 : cLet σ f l 17 0 = σ 0 0 + 1 := by
      unfold cLet
      rw [fgt_o _ (by decide), us_o _ _ _ (by decide), us_o _ _ _ (by decide), us_e, e17]
    have u18 : ∀ j, cLet σ f l 18 j = if j = σ 0 0 then f else σ 18 j := fun j => by
      unfold cLet
      rw [fgt_o _ (by decide), us_o _ _ _ (by decide), us_s, us_o _ _ _ (by decide), e17]
    have u19 : ∀ j, cLet σ f l 19 j = if j = σ 0 0 then l else σ 19 j := fun j => by
      unfold cLet
      rw [fgt_o _ (by decide), us_s, us_o _ _ _ (by decide), us_o _ _ _ (by decide), e17]
    have u26 : cLet σ f l 26 0 = 0 := fgt_26 _
    have u41 : cLet σ f l 41 0 = 0 := fgt_41 _
    generalize cLet σ f l = σ1 at u0 u17 u18 u19 u26 u41
    have a0 : σ1 0 = σ 0 := u0 0 (by decide) (by decide) (by decide) (by decide) (by decide)
    refine sM_letter hK rf rl (by rw [a0]; exact n0) (by rw [a0]; exact n8) (fun z => absurd q z) (fun _ z => ?_) (fun _ _ => ?_)
    · rw [a0] at z
      omega
    · unfold stLet
      rw [a0, e17]
      generalize hτ : am_us (am_us (am_us σ1 1 (σ 0 0) f) 2 (σ 0 0) l) 0 0 (σ 0 0 + 1) = τ
      have t0 : τ 0 0 = σ 0 0 + 1 := by rw [← hτ, us_e]
      have t0j : ∀ j, j ≠ 0 → τ 0 j = σ 0 j := fun j hj => by rw [← hτ, us_n _ _ _ hj, us_o _ _ _ (by decide), us_o _ _ _ (by decide), a0]
      have t1 : ∀ j, τ 1 j = if j = σ 0 0 then f else σ 1 j := fun j => by rw [← hτ, us_o _ _ _ (by decide), us_o _ _ _ (by decide), us_s, u0 1 (by decide) (by decide) (by decide) (by decide) (by decide)]
      have t2 : ∀ j, τ 2 j = if j = σ 0 0 then l else σ 2 j := fun j => by rw [← hτ, us_o _ _ _ (by decide), us_s, us_o _ _ _ (by decide), u0 2 (by decide) (by decide) (by decide) (by decide) (by decide)]
      have tc : ∀ c, 2 < c → τ c = σ1 c := fun c h => by rw [← hτ, us_o _ _ _ (by omega), us_o _ _ _ (by omega), us_o _ _ _ (by omega)]
      have td : ∀ c, 2 < c → c ≠ 17 → c ≠ 18 → c ≠ 19 → c ≠ 26 → c ≠ 41 → τ c = σ c := fun c h h1 h2 h3 h4 h5 => (tc c h).trans (u0 c h1 h2 h3 h4 h5)
      have e3 : τ 3 = σ 3 := td 3 (by decide) (by decide) (by decide) (by decide) (by decide) (by decide)
      have e4 : τ 4 = σ 4 := td 4 (by decide) (by decide) (by decide) (by decide) (by decide) (by decide)
      have e5 : τ 5 = σ 5 := td 5 (by decide) (by decide) (by decide) (by decide) (by decide) (by decide)
      have e6 : τ 6 = σ 6 := td 6 (by decide) (by decide) (by decide) (by decide) (by decide) (by decide)
      have e7 : τ 7 = σ 7 := td 7 (by decide) (by decide) (by decide) (by decide) (by decide) (by decide)
      have e8 : τ 8 = σ 8 := td 8 (by decide) (by decide) (by decide) (by decide) (by decide) (by decide)
      have e03 : τ 0 3 = σ 0 3 := t0j 3 (by decide)
      obtain ⟨⟨v1, v2, v3, v4⟩, vf⟩ := hm
      obtain ⟨BL, b1, b2, b3⟩ := hi.2.2
      refine ⟨rfl, ⟨⟨⟨⟨?_, fun a a0 an => ?_, ?_, fun k k0 k1 => ?_⟩, by rw [e8]; exact vf⟩, ?_, ?_⟩, ⟨Or.inl ?_, Or.inl ?_⟩, BL, MBd_s ?_ ?_ b1, CBd_eq (fun c h1 h2 => ?_) b2, ?_⟩, ?_⟩
      · show 0 ≤ τ 0 0 ∧ τ 0 0 ≤ 8
        omega
      · have an : a < τ 0 0 := an
        show 0 ≤ τ 1 a ∧ τ 1 a ≤ τ 2 a ∧ τ 2 a ≤ 199
        rw [t1, t2]
        by_cases e : a = σ 0 0
        · rw [if_pos e, if_pos e]
          have := q.1
          have := q.2
          omega
        · rw [if_neg e, if_neg e]
          exact v2 a a0 (by show a < σ 0 0; omega)
      · show 0 ≤ τ 0 3 ∧ τ 0 3 ≤ 10
        rw [e03]
        exact v3
      · have k1 : k < τ 0 3 := k1
        rw [e03] at k1
        have h := v4 k k0 k1
        have h : (0 ≤ σ 3 k ∧ σ 3 k ≤ 4) ∧ (0 ≤ σ 4 k ∧ σ 4 k < σ 0 0) ∧ (0 ≤ σ 5 k ∧ σ 5 k < σ 0 0) ∧ (σ 3 k ≤ 1 → σ 4 k ≠ σ 5 k ∧ σ 6 k ≤ 99) ∧ (2 ≤ σ 3 k → σ 5 k = σ 4 k) ∧ (0 ≤ σ 6 k ∧ σ 6 k ≤ 199) ∧ (σ 3 k = 4 → σ 6 k ≤ 6) := h
        show (0 ≤ τ 3 k ∧ τ 3 k ≤ 4) ∧ (0 ≤ τ 4 k ∧ τ 4 k < τ 0 0) ∧ (0 ≤ τ 5 k ∧ τ 5 k < τ 0 0) ∧ (τ 3 k ≤ 1 → τ 4 k ≠ τ 5 k ∧ τ 6 k ≤ 99) ∧ (2 ≤ τ 3 k → τ 5 k = τ 4 k) ∧ (0 ≤ τ 6 k ∧ τ 6 k ≤ 199) ∧ (τ 3 k = 4 → τ 6 k ≤ 6)
        rw [e3, e4, e5, e6, t0]
        exact ⟨h.1, ⟨h.2.1.1, by omega⟩, ⟨h.2.2.1.1, by omega⟩, h.2.2.2⟩
      · unfold Wok
        rw [e03, e7]
        exact hw
      · have ef : fmk τ = fmk σ := by
          unfold fmk
          rw [e03, e8]
        unfold Cpl
        rw [ef, t0, e03, e3, e4, e5, e6, e7, tc 17 (by decide), u17, tc 18 (by decide), tc 19 (by decide), td 20 (by decide) (by decide) (by decide) (by decide) (by decide) (by decide), td 21 (by decide) (by decide) (by decide) (by decide) (by decide) (by decide), td 22 (by decide) (by decide) (by decide) (by decide) (by decide) (by decide), td 23 (by decide) (by decide) (by decide) (by decide) (by decide) (by decide), td 24 (by decide) (by decide) (by decide) (by decide) (by decide) (by decide), td 25 (by decide) (by decide) (by decide) (by decide) (by decide) (by decide)]
        refine ⟨rfl, hc.2.1, fun a a0 an => ?_, hc.2.2.2⟩
        rw [u18, u19, t1, t2]
        by_cases e : a = σ 0 0
        · rw [if_pos e, if_pos e, if_pos e, if_pos e]
          exact ⟨rfl, rfl⟩
        · rw [if_neg e, if_neg e, if_neg e, if_neg e]
          exact hc.2.2.1 a a0 (by omega)
      · rw [tc 26 (by decide)]
        exact u26
      · rw [tc 41 (by decide)]
        exact u41
      · exact td 14 (by decide) (by decide) (by decide) (by decide) (by decide) (by decide)
      · exact td 15 (by decide) (by decide) (by decide) (by decide) (by decide) (by decide)
      · exact td c (by omega) (by omega) (by omega) (by omega) (by omega) (by omega)
      · rw [t0]
        exact BV_up (by omega) b3
      · exact td 60 (by decide) (by decide) (by decide) (by decide) (by decide) (by decide)
theorem y_stamp {K : am_KT} (hK : am_C K) {d : Nat} {σ : am_S} {x f l : Int} (rx : am_rng x) (rf : am_rng f) (rl : am_rng l) (hi : Inv σ) : Both K (d + 16) mD_stamp mM_stamp [.inl x, .inl f, .inl l] σ := by
  obtain ⟨hm, hw, hc⟩ := hi.1
  have n0 : 0 ≤ σ 0 0 := hm.1.1.1
  have n8 : σ 0 0 ≤ 8 := hm.1.1.2
  have e17 := hc.1
  refine sD_stamp hK rx rf rl (by omega) (by omega) (fun q => ⟨_, rfl, rfl, ?_⟩) (fun q q2 => ⟨_, rfl, rfl, ?_⟩) (fun q q2 => ⟨_, rfl, ?_, ?_⟩)
  · rw [e17] at q
    exact sM_stamp hK rx rf rl n0 n8 (fun _ => ⟨rfl, hi, rfl⟩) (fun z => absurd z q) (fun z => absurd z q)
  · rw [e17] at q
    exact sM_stamp hK rx rf rl n0 n8 (fun z => absurd q z) (fun _ _ => ⟨rfl, hi, rfl⟩) (fun _ z => absurd z q2)
  · rw [fgt_o _ (by decide), us_o _ _ _ (by decide), us_o _ _ _ (by decide)]
  · rw [e17] at q
    generalize hσ : fgt (am_us (am_us σ 18 x f) 19 x l) = σ1
    have u0 : ∀ c, c ≠ 18 → c ≠ 19 → c ≠ 26 → c ≠ 41 → σ1 c = σ c := fun c h2 h3 h4 h5 => by
      rw [← hσ, fgt_o _ ⟨h4, h5⟩, us_o _ _ _ h3, us_o _ _ _ h2]
    have u18 : ∀ j, σ1 18 j = if j = x then f else σ 18 j := fun j => by
      rw [← hσ, fgt_o _ (by decide), us_o _ _ _ (by decide), us_s]
    have u19 : ∀ j, σ1 19 j = if j = x then l else σ 19 j := fun j => by
      rw [← hσ, fgt_o _ (by decide), us_s, us_o _ _ _ (by decide)]
    have u26 : σ1 26 0 = 0 := by rw [← hσ]; exact fgt_26 _
    have u41 : σ1 41 0 = 0 := by rw [← hσ]; exact fgt_41 _
    have a0 : σ1 0 = σ 0 := u0 0 (by decide) (by decide) (by decide) (by decide)
    have a1 : σ1 1 = σ 1 := u0 1 (by decide) (by decide) (by decide) (by decide)
    refine sM_stamp hK rx rf rl (by rw [a0]; exact n0) (by rw [a0]; exact n8) (fun z => absurd q (by rw [a0] at z; exact z)) (fun _ z => absurd q2 z) (fun _ _ => ?_)
    rw [a1, (hc.2.2.1 x q.1 q.2).1]
    generalize hτ : am_us (am_us σ1 1 x f) 2 x l = τ
    have t1 : ∀ j, τ 1 j = if j = x then f else σ 1 j := fun j => by rw [← hτ, us_o _ _ _ (by decide), us_s, a1]
    have t2 : ∀ j, τ 2 j = if j = x then l else σ 2 j := fun j => by rw [← hτ, us_s, us_o _ _ _ (by decide), u0 2 (by decide) (by decide) (by decide) (by decide)]
    have tc : ∀ c, c ≠ 1 → c ≠ 2 → τ c = σ1 c := fun c h h' => by rw [← hτ, us_o _ _ _ h', us_o _ _ _ h]
    have td : ∀ c, c ≠ 1 → c ≠ 2 → c ≠ 18 → c ≠ 19 → c ≠ 26 → c ≠ 41 → τ c = σ c := fun c h h' h2 h3 h4 h5 => (tc c h h').trans (u0 c h2 h3 h4 h5)
    have e0 : τ 0 = σ 0 := td 0 (by decide) (by decide) (by decide) (by decide) (by decide) (by decide)
    have e3 : τ 3 = σ 3 := td 3 (by decide) (by decide) (by decide) (by decide) (by decide) (by decide)
    have e4 : τ 4 = σ 4 := td 4 (by decide) (by decide) (by decide) (by decide) (by decide) (by decide)
    have e5 : τ 5 = σ 5 := td 5 (by decide) (by decide) (by decide) (by decide) (by decide) (by decide)
    have e6 : τ 6 = σ 6 := td 6 (by decide) (by decide) (by decide) (by decide) (by decide) (by decide)
    have e7 : τ 7 = σ 7 := td 7 (by decide) (by decide) (by decide) (by decide) (by decide) (by decide)
    have e8 : τ 8 = σ 8 := td 8 (by decide) (by decide) (by decide) (by decide) (by decide) (by decide)
    obtain ⟨⟨v1, v2, v3, v4⟩, vf⟩ := hm
    obtain ⟨BL, b1, b2, b3⟩ := hi.2.2
    refine ⟨rfl, ⟨⟨⟨⟨?_, fun a a0 an => ?_, ?_, fun k k0 k1 => ?_⟩, by rw [e8]; exact vf⟩, ?_, ?_⟩, ⟨Or.inl ?_, Or.inl ?_⟩, BL, MBd_s ?_ ?_ b1, CBd_eq (fun c h1 h2 => ?_) b2, ?_⟩, ?_⟩
    · show 0 ≤ τ 0 0 ∧ τ 0 0 ≤ 8
      rw [e0]
      exact v1
    · have an : a < τ 0 0 := an
      rw [e0] at an
      show 0 ≤ τ 1 a ∧ τ 1 a ≤ τ 2 a ∧ τ 2 a ≤ 199
      rw [t1, t2]
      by_cases e : a = x
      · rw [if_pos e, if_pos e]
        have := q2.1
        have := q2.2
        omega
      · rw [if_neg e, if_neg e]
        exact v2 a a0 an
    · show 0 ≤ τ 0 3 ∧ τ 0 3 ≤ 10
      rw [e0]
      exact v3
    · have k1 : k < τ 0 3 := k1
      rw [e0] at k1
      show (0 ≤ τ 3 k ∧ τ 3 k ≤ 4) ∧ (0 ≤ τ 4 k ∧ τ 4 k < τ 0 0) ∧ (0 ≤ τ 5 k ∧ τ 5 k < τ 0 0) ∧ (τ 3 k ≤ 1 → τ 4 k ≠ τ 5 k ∧ τ 6 k ≤ 99) ∧ (2 ≤ τ 3 k → τ 5 k = τ 4 k) ∧ (0 ≤ τ 6 k ∧ τ 6 k ≤ 199) ∧ (τ 3 k = 4 → τ 6 k ≤ 6)
      rw [e3, e4, e5, e6, e0]
      exact v4 k k0 k1
    · unfold Wok
      rw [e0, e7]
      exact hw
    · have ef : fmk τ = fmk σ := by
        unfold fmk
        rw [e0, e8]
      unfold Cpl
      rw [ef, e0, e3, e4, e5, e6, e7, tc 18 (by decide) (by decide), tc 19 (by decide) (by decide), td 17 (by decide) (by decide) (by decide) (by decide) (by decide) (by decide), td 20 (by decide) (by decide) (by decide) (by decide) (by decide) (by decide), td 21 (by decide) (by decide) (by decide) (by decide) (by decide) (by decide), td 22 (by decide) (by decide) (by decide) (by decide) (by decide) (by decide), td 23 (by decide) (by decide) (by decide) (by decide) (by decide) (by decide), td 24 (by decide) (by decide) (by decide) (by decide) (by decide) (by decide), td 25 (by decide) (by decide) (by decide) (by decide) (by decide) (by decide)]
      refine ⟨e17, hc.2.1, fun a a0 an => ?_, hc.2.2.2⟩
      rw [u18, u19, t1, t2]
      by_cases e : a = x
      · rw [if_pos e, if_pos e, if_pos e, if_pos e]
        exact ⟨rfl, rfl⟩
      · rw [if_neg e, if_neg e, if_neg e, if_neg e]
        exact hc.2.2.1 a a0 an
    · rw [tc 26 (by decide) (by decide)]
      exact u26
    · rw [tc 41 (by decide) (by decide)]
      exact u41
    · exact td 14 (by decide) (by decide) (by decide) (by decide) (by decide) (by decide)
    · exact td 15 (by decide) (by decide) (by decide) (by decide) (by decide) (by decide)
    · exact td c (by omega) (by omega) (by omega) (by omega) (by omega) (by omega)
    · rw [e0]
      exact b3
    · exact td 60 (by decide) (by decide) (by decide) (by decide) (by decide) (by decide)
