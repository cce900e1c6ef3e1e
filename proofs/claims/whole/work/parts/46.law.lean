/-! THE LAW -/
theorem both_use {K : am_KT} (hK : am_C K) {D mC mR : Nat} {xs : List am_V} {σ : am_S} (hB : Both K D mC mR xs σ) {Q : am_Q} (h : ∀ v σ1, σ1 60 = σ 60 → (∀ Q2 : am_Q, (∀ σ2, Inv σ2 → σ2 60 = σ 60 → Q2 (some v) σ2) → K D mR 0 (.inr 0 :: xs) [] σ1 Q2) → Q (some v) σ1) : K D mC 0 (.inr 16 :: xs) [] σ Q := by
  refine hK.2.2 _ _ _ _ _ _ _ _ (fun o σ1 hq => ?_) hB
  obtain ⟨v, rfl, s60, hR⟩ := hq
  refine h v σ1 s60 (fun Q2 h2 => hK.2.2 _ _ _ _ _ _ _ _ (fun o' σ2 hq2 => ?_) hR)
  obtain ⟨rfl, i2, s2⟩ := hq2
  exact h2 σ2 i2 s2
set_option maxHeartbeats 4000000 in
theorem s_law {K : am_KT} (hK : am_C K) {d : Nat} {σ0 : am_S} {Q : am_Q} (l0 : 0 ≤ σ0 60 (-1)) (l1 : σ0 60 (-1) ≤ 2000000000) (hr : ∀ j, 0 ≤ j → j < σ0 60 (-1) → am_rng (σ0 60 j)) (hi0 : Inv σ0) (h : ∀ σ', Inv σ' → Q (some 1) σ') : K (d + 17) mZ_law 8 [.inr 60, .inr 16, .inr 0] [] σ0 Q := by
  refine bZ_law_8 (d := d + 16) hK ?_
  have loop : ∀ (f : Nat) (v : Int) (σ : am_S), 0 ≤ v → v ≤ σ0 60 (-1) → (σ0 60 (-1) - v).toNat ≤ f → Inv σ → σ 60 = σ0 60 → K (d + 17) mZ_law 10 [.inr 60, .inr 16, .inr 0, .inl v] [] σ Q := by
    intro f
    induction f with
    | zero =>
      intro v σ v0 v1 hf hi hs
      exact bZ_law_10 (d := d + 16) hK ⟨by omega, by omega⟩ (by rw [hs]; exact ⟨by omega, by omega⟩) (fun _ => bZ_law_567 (d := d + 16) hK (h σ hi)) (fun g => absurd g (by rw [hs]; omega))
    | succ f ih =>
      intro v σ v0 v1 hf hi hs
      refine bZ_law_10 (d := d + 16) hK ⟨by omega, by omega⟩ (by rw [hs]; exact ⟨by omega, by omega⟩) (fun _ => bZ_law_567 (d := d + 16) hK (h σ hi)) (fun g => ?_)
      rw [hs] at g
      have next : ∀ σ', Inv σ' → σ' 60 = σ 60 → K (d + 17) mZ_law 565 [.inr 60, .inr 16, .inr 0, .inl v] [] σ' Q := fun σ' hi' hs' => bZ_law_565 (d := d + 16) hK (ih (v + 6) σ' (by omega) (by omega) (by omega) hi' (hs'.trans hs))
      have B : ∀ k, 0 ≤ k → k ≤ 5 → 0 ≤ v + k ∧ v + k < σ 60 (-1) := fun k k0 k1 => by rw [hs]; omega
      have R : ∀ k, 0 ≤ k → k ≤ 5 → am_rng (σ 60 (v + k)) := fun k k0 k1 => by rw [hs]; exact hr _ (by omega) (by omega)
      have B1 := B 1 (by decide) (by decide)
      have B2 := B 2 (by decide) (by decide)
      have B3 := B 3 (by decide) (by decide)
      have B4 := B 4 (by decide) (by decide)
      have B5 := B 5 (by decide) (by decide)
      have R1 := R 1 (by decide) (by decide)
      have R2 := R 2 (by decide) (by decide)
      have R3 := R 3 (by decide) (by decide)
      have R4 := R 4 (by decide) (by decide)
      have R5 := R 5 (by decide) (by decide)
      refine bZ_law_16 (d := d + 16) hK (by have := B 0 (by decide) (by decide); omega) (rng_and _ _) (fun _ => ?_) (fun _ => ?_) (fun _ => ?_) (fun _ => ?_) (fun _ => ?_) (fun _ => ?_) (fun _ => ?_) (fun _ => ?_) (fun _ => ?_) (fun _ => ?_) (fun _ => ?_) (fun _ => ?_) (fun _ => ?_) (fun _ => ?_) (fun _ => ?_) (fun _ => ?_) (fun _ => ?_) (fun _ => ?_) (fun _ => ?_) (fun _ => ?_) (fun _ => ?_) (fun _ => ?_) (fun _ => ?_) (fun _ => ?_) (fun _ => ?_) (fun _ => next σ hi rfl)
      · refine bZ_law_22 (d := d + 16) hK B1 B2 (both_use hK (y_letter hK R1 R2 hi) (fun x σ1 s60 hR => bZ_law_34 (d := d + 16) hK (by rw [s60]; exact B1) (by rw [s60]; exact B2) ?_))
        rw [s60]
        exact hR _ (fun σ2 i2 s2 => bZ_law_46 (d := d + 16) hK (fun _ => next σ2 i2 s2) (fun g => absurd rfl g))
      · refine bZ_law_49 (d := d + 16) hK B1 B2 B3 (both_use hK (y_stamp hK R1 R2 R3 hi) (fun x σ1 s60 hR => bZ_law_66 (d := d + 16) hK (by rw [s60]; exact B1) (by rw [s60]; exact B2) (by rw [s60]; exact B3) ?_))
        rw [s60]
        exact hR _ (fun σ2 i2 s2 => bZ_law_83 (d := d + 16) hK (fun _ => next σ2 i2 s2) (fun g => absurd rfl g))
      · refine bZ_law_86 (d := d + 16) hK B1 B2 B3 B4 B5 (both_use hK (y_note hK R1 R2 R3 R4 R5 hi) (fun x σ1 s60 hR => bZ_law_113 (d := d + 16) hK (by rw [s60]; exact B1) (by rw [s60]; exact B2) (by rw [s60]; exact B3) (by rw [s60]; exact B4) (by rw [s60]; exact B5) ?_))
        rw [s60]
        exact hR _ (fun σ2 i2 s2 => bZ_law_140 (d := d + 16) hK (fun _ => next σ2 i2 s2) (fun g => absurd rfl g))
      · have fo : ∀ u : Int, (u = 0 ∨ u = 1) → (u = 0 ↔ σ 60 (v + 2) = 0) → K (d + 17) mZ_law 158 [.inr 60, .inr 16, .inr 0, .inl v] [.inl u, .inl (σ 60 (v + 1)), .inr 16] σ Q := by
          intro u hu hz
          refine bZ_law_158 (d := d + 16) hK (both_use hK (y_force hK R1 hu hi) (fun x σ1 s60 hR => ?_))
          have go := hR (fun o σ1 => K (d + 17) mZ_law 175 [.inr 60, .inr 16, .inr 0, .inl v] (am_o o ++ [.inl x]) σ1 Q) (fun σ2 i2 s2 => bZ_law_175 (d := d + 16) hK (fun _ => next σ2 i2 s2) (fun g => absurd rfl g))
          refine bZ_law_159 (d := d + 16) hK (by rw [s60]; exact B1) (by rw [s60]; exact B2) (by rw [s60]; exact R2) (fun z => bZ_law_173 (d := d + 16) hK (bZ_law_174 (d := d + 16) hK ?_)) (fun z => bZ_law_171 (d := d + 16) hK (bZ_law_174 (d := d + 16) hK ?_))
          · rw [s60] at z ⊢
            have eu : u = 0 := hz.mpr z
            rw [eu] at go
            exact go
          · rw [s60] at z ⊢
            have eu : u = 1 := by
              rcases hu with q | q
              · exact absurd (hz.mp q) z
              · exact q
            rw [eu] at go
            exact go
        exact bZ_law_143 (d := d + 16) hK B1 B2 R2 (fun z => bZ_law_157 (d := d + 16) hK (fo 0 (Or.inl rfl) ⟨fun _ => z, fun _ => rfl⟩)) (fun z => bZ_law_155 (d := d + 16) hK (fo 1 (Or.inr rfl) ⟨fun q => absurd q (by decide), fun q => absurd q z⟩))
      · refine bZ_law_178 (d := d + 16) hK  (both_use hK (y_unnote hK  hi) (fun x σ1 s60 hR => bZ_law_180 (d := d + 16) hK  ?_))
        exact hR _ (fun σ2 i2 s2 => bZ_law_182 (d := d + 16) hK (fun _ => next σ2 i2 s2) (fun g => absurd rfl g))
      · refine bZ_law_185 (d := d + 16) hK  (both_use hK (y_unletter hK  hi) (fun x σ1 s60 hR => bZ_law_187 (d := d + 16) hK  ?_))
        exact hR _ (fun σ2 i2 s2 => bZ_law_189 (d := d + 16) hK (fun _ => next σ2 i2 s2) (fun g => absurd rfl g))
      · refine bZ_law_192 (d := d + 16) hK B1 B2 (both_use hK (y_ofLetter hK R1 R2 hi) (fun x σ1 s60 hR => bZ_law_204 (d := d + 16) hK (by rw [s60]; exact B1) (by rw [s60]; exact B2) ?_))
        rw [s60]
        exact hR _ (fun σ2 i2 s2 => bZ_law_216 (d := d + 16) hK (fun _ => next σ2 i2 s2) (fun g => absurd rfl g))
      · refine bZ_law_219 (d := d + 16) hK B1 B2 (both_use hK (y_ofNote hK R1 R2 hi) (fun x σ1 s60 hR => bZ_law_231 (d := d + 16) hK (by rw [s60]; exact B1) (by rw [s60]; exact B2) ?_))
        rw [s60]
        exact hR _ (fun σ2 i2 s2 => bZ_law_243 (d := d + 16) hK (fun _ => next σ2 i2 s2) (fun g => absurd rfl g))
      · refine bZ_law_246 (d := d + 16) hK  (both_use hK (y_agree hK  hi) (fun x σ1 s60 hR => bZ_law_248 (d := d + 16) hK  ?_))
        exact hR _ (fun σ2 i2 s2 => bZ_law_250 (d := d + 16) hK (fun _ => next σ2 i2 s2) (fun g => absurd rfl g))
      · refine bZ_law_253 (d := d + 16) hK B1 B2 (both_use hK (y_day hK R1 R2 hi) (fun x σ1 s60 hR => bZ_law_265 (d := d + 16) hK (by rw [s60]; exact B1) (by rw [s60]; exact B2) ?_))
        rw [s60]
        exact hR _ (fun σ2 i2 s2 => bZ_law_277 (d := d + 16) hK (fun _ => next σ2 i2 s2) (fun g => absurd rfl g))
      · refine bZ_law_280 (d := d + 16) hK B1 B2 (both_use hK (y_can hK R1 R2 hi) (fun x σ1 s60 hR => bZ_law_292 (d := d + 16) hK (by rw [s60]; exact B1) (by rw [s60]; exact B2) ?_))
        rw [s60]
        exact hR _ (fun σ2 i2 s2 => bZ_law_304 (d := d + 16) hK (fun _ => next σ2 i2 s2) (fun g => absurd rfl g))
      · refine bZ_law_307 (d := d + 16) hK B1 (both_use hK (y_left hK R1 hi) (fun x σ1 s60 hR => bZ_law_314 (d := d + 16) hK (by rw [s60]; exact B1) ?_))
        rw [s60]
        exact hR _ (fun σ2 i2 s2 => bZ_law_321 (d := d + 16) hK (fun _ => next σ2 i2 s2) (fun g => absurd rfl g))
      · refine bZ_law_324 (d := d + 16) hK B1 B2 (both_use hK (y_gap hK R1 R2 hi) (fun x σ1 s60 hR => bZ_law_336 (d := d + 16) hK (by rw [s60]; exact B1) (by rw [s60]; exact B2) ?_))
        rw [s60]
        exact hR _ (fun σ2 i2 s2 => bZ_law_348 (d := d + 16) hK (fun _ => next σ2 i2 s2) (fun g => absurd rfl g))
      · refine bZ_law_351 (d := d + 16) hK B1 B2 (both_use hK (y_ahead hK R1 R2 hi) (fun x σ1 s60 hR => bZ_law_363 (d := d + 16) hK (by rw [s60]; exact B1) (by rw [s60]; exact B2) ?_))
        rw [s60]
        exact hR _ (fun σ2 i2 s2 => bZ_law_375 (d := d + 16) hK (fun _ => next σ2 i2 s2) (fun g => absurd rfl g))
      · refine bZ_law_378 (d := d + 16) hK  (both_use hK (y_orders hK  hi) (fun x σ1 s60 hR => bZ_law_380 (d := d + 16) hK  ?_))
        exact hR _ (fun σ2 i2 s2 => bZ_law_382 (d := d + 16) hK (fun _ => next σ2 i2 s2) (fun g => absurd rfl g))
      · refine bZ_law_385 (d := d + 16) hK B1 (both_use hK (y_order hK R1 hi) (fun x σ1 s60 hR => bZ_law_392 (d := d + 16) hK (by rw [s60]; exact B1) ?_))
        rw [s60]
        exact hR _ (fun σ2 i2 s2 => bZ_law_399 (d := d + 16) hK (fun _ => next σ2 i2 s2) (fun g => absurd rfl g))
      · refine bZ_law_402 (d := d + 16) hK B1 (both_use hK (y_knot hK R1 hi) (fun x σ1 s60 hR => bZ_law_409 (d := d + 16) hK (by rw [s60]; exact B1) ?_))
        rw [s60]
        exact hR _ (fun σ2 i2 s2 => bZ_law_416 (d := d + 16) hK (fun _ => next σ2 i2 s2) (fun g => absurd rfl g))
      · refine bZ_law_419 (d := d + 16) hK  (both_use hK (y_core hK  hi) (fun x σ1 s60 hR => bZ_law_421 (d := d + 16) hK  ?_))
        exact hR _ (fun σ2 i2 s2 => bZ_law_423 (d := d + 16) hK (fun _ => next σ2 i2 s2) (fun g => absurd rfl g))
      · refine bZ_law_426 (d := d + 16) hK B1 (both_use hK (y_worst hK R1 hi) (fun x σ1 s60 hR => bZ_law_433 (d := d + 16) hK (by rw [s60]; exact B1) ?_))
        rw [s60]
        exact hR _ (fun σ2 i2 s2 => bZ_law_440 (d := d + 16) hK (fun _ => next σ2 i2 s2) (fun g => absurd rfl g))
      · refine bZ_law_443 (d := d + 16) hK  (both_use hK (y_best hK  hi) (fun x σ1 s60 hR => bZ_law_445 (d := d + 16) hK  ?_))
        exact hR _ (fun σ2 i2 s2 => bZ_law_447 (d := d + 16) hK (fun _ => next σ2 i2 s2) (fun g => absurd rfl g))
      · refine bZ_law_450 (d := d + 16) hK B1 B2 (both_use hK (y_tie hK R1 R2 hi) (fun x σ1 s60 hR => bZ_law_462 (d := d + 16) hK (by rw [s60]; exact B1) (by rw [s60]; exact B2) ?_))
        rw [s60]
        exact hR _ (fun σ2 i2 s2 => bZ_law_474 (d := d + 16) hK (fun _ => next σ2 i2 s2) (fun g => absurd rfl g))
      · refine bZ_law_477 (d := d + 16) hK B1 B2 (both_use hK (y_untie hK R1 R2 hi) (fun x σ1 s60 hR => bZ_law_489 (d := d + 16) hK (by rw [s60]; exact B1) (by rw [s60]; exact B2) ?_))
        rw [s60]
        exact hR _ (fun σ2 i2 s2 => bZ_law_501 (d := d + 16) hK (fun _ => next σ2 i2 s2) (fun g => absurd rfl g))
      · refine bZ_law_504 (d := d + 16) hK B1 (both_use hK (y_spread hK R1 hi) (fun x σ1 s60 hR => bZ_law_511 (d := d + 16) hK (by rw [s60]; exact B1) ?_))
        rw [s60]
        exact hR _ (fun σ2 i2 s2 => bZ_law_518 (d := d + 16) hK (fun _ => next σ2 i2 s2) (fun g => absurd rfl g))
      · refine bZ_law_521 (d := d + 16) hK B1 B2 (both_use hK (y_lies hK R1 R2 hi) (fun x σ1 s60 hR => bZ_law_533 (d := d + 16) hK (by rw [s60]; exact B1) (by rw [s60]; exact B2) ?_))
        rw [s60]
        exact hR _ (fun σ2 i2 s2 => bZ_law_545 (d := d + 16) hK (fun _ => next σ2 i2 s2) (fun g => absurd rfl g))
      · refine bZ_law_548 (d := d + 16) hK B1 (both_use hK (y_many hK R1 hi) (fun x σ1 s60 hR => bZ_law_555 (d := d + 16) hK (by rw [s60]; exact B1) ?_))
        rw [s60]
        exact hR _ (fun σ2 i2 s2 => bZ_law_562 (d := d + 16) hK (fun _ => next σ2 i2 s2) (fun g => absurd rfl g))
  exact loop _ 0 σ0 (Int.le_refl 0) l0 (Nat.le_refl _) hi0 rfl
