/-! the reference: begins -/
/-- the bounds of the stamps of the letters below v -/
def MF (P : PB) (v i j : Int) : Int := if i = j then 0 else if i = 8 ∧ j < v ∧ j < pn P then pl P j else if j = 8 ∧ i < v ∧ i < pn P then -(pf P i) else 100000
theorem MF_st {P : PB} (hv : Vld P) {v i j : Int} (hi : 0 ≤ i ∧ i < 9) (hj : 0 ≤ j ∧ j < 9) : -199 ≤ MF P v i j ∧ MF P v i j ≤ 100000 := by
  unfold MF
  split
  · omega
  · split
    · rename_i q
      have := hv.2.1 j hj.1 q.2.2
      omega
    · split
      · rename_i q
        have := hv.2.1 i hi.1 q.2.2
        omega
      · omega
theorem sM_begins {K : am_KT} (hK : am_C K) {d : Nat} {σ : am_S} {Q : am_Q} {s : Int} (hv : Vld (pbM σ))
    (h : ∀ σ', cfr σ σ' → Mst (-199) σ' → (∀ w, Sol σ' w ↔ Way (pbM σ) (fun k => am_and (am_shr s k) 1 = 1) w) → Q none σ') : K (d + 2) mM_begins 0 [.inr 0, .inl s] [] σ Q := by
  have n0 : 0 ≤ σ 0 0 := hv.1.1
  have n8 : σ 0 0 ≤ 8 := hv.1.2
  have m0 : 0 ≤ σ 0 3 := hv.2.2.1.1
  have m10 : σ 0 3 ≤ 10 := hv.2.2.1.2
  -- the notes
  have loop3 : ∀ (k : Int) (τ : am_S), k ≤ σ 0 3 → (0 ≤ k ∧ cfr σ τ ∧ Mst (-199) τ ∧ ∀ w, Sol τ w ↔ StpW (pbM σ) w ∧ Nts (pbM σ) (fun k => am_and (am_shr s k) 1 = 1) k w) → K (d + 2) mM_begins 64 [.inr 0, .inl s, .inl k] [] τ Q := by
    refine am_up (P := fun k τ => 0 ≤ k ∧ cfr σ τ ∧ Mst (-199) τ ∧ ∀ w, Sol τ w ↔ StpW (pbM σ) w ∧ Nts (pbM σ) (fun k => am_and (am_shr s k) 1 = 1) k w) (C := fun k τ => K (d + 2) mM_begins 64 [.inr 0, .inl s, .inl k] [] τ Q) (fun τ hp => ?_) (fun k τ hk hp ih => ?_)
    · obtain ⟨-, c, m, q⟩ := hp
      have e3 : τ 0 3 = σ 0 3 := c.2 3 (by decide)
      exact bM_begins_64 (d := d + 1) hK ⟨by omega, by omega⟩ ⟨by omega, by omega⟩ (fun _ => bM_begins_80 (d := d + 1) hK (h τ c m q)) (fun g => absurd g (by omega))
    · obtain ⟨k0, c, m, q⟩ := hp
      have e3 : τ 0 3 = σ 0 3 := c.2 3 (by decide)
      refine bM_begins_64 (d := d + 1) hK ⟨by omega, by omega⟩ ⟨by omega, by omega⟩ (fun g => absurd g (by omega)) (fun _ => ?_)
      refine bM_begins_68 (d := d + 1) hK (rng_and _ _) (fun g => ?_) (fun g => ?_)
      · refine bM_begins_78 (d := d + 1) hK (ih τ ⟨by omega, c, m, fun w => ?_⟩)
        rw [q w]
        refine ⟨fun z => ⟨z.1, fun k' a b e => ?_⟩, fun z => ⟨z.1, fun k' a b e => z.2 k' a (by omega) e⟩⟩
        by_cases ek : k' = k
        · subst ek
          exact absurd e g
        · exact z.2 k' a (by omega) e
      · have hv2 : Vld (pbM τ) := by rw [pbM_fr c]; exact hv
        refine bM_begins_75 (d := d + 1) hK (sM_takesNote hK hv2 ⟨k0, by omega⟩ m (fun τ' c' m' q' => ?_))
        refine bM_begins_78 (d := d + 1) hK (ih τ' ⟨by omega, cfr_tr c c', m', fun w => ?_⟩)
        rw [q' w, q w]
        have f3 : τ 3 = σ 3 := c.1 3 (by decide) (by decide) (by decide)
        have f4 : τ 4 = σ 4 := c.1 4 (by decide) (by decide) (by decide)
        have f5 : τ 5 = σ 5 := c.1 5 (by decide) (by decide) (by decide)
        have f6 : τ 6 = σ 6 := c.1 6 (by decide) (by decide) (by decide)
        rw [f3, f4, f5, f6]
        constructor
        · rintro ⟨⟨z1, z2⟩, z3⟩
          refine ⟨z1, fun k' a b e => ?_⟩
          by_cases ek : k' = k
          · subst ek
            exact z3
          · exact z2 k' a (by omega) e
        · rintro ⟨z1, z2⟩
          exact ⟨⟨z1, fun k' a b e => z2 k' a (by omega) e⟩, z2 k k0 (by omega) g⟩
  -- the stamps
  have loop2 : ∀ (v : Int) (τ : am_S), v ≤ 8 → (0 ≤ v ∧ cfr σ τ ∧ τ 0 12 = 1 ∧ (∀ a, 0 ≤ a → a < v → τ 10 a = -9) ∧ ∀ i j, 0 ≤ i → i < 9 → 0 ≤ j → j < 9 → τ 9 (9 * i + j) = MF (pbM σ) v i j) → K (d + 2) mM_begins 26 [.inr 0, .inl s, .inl v] [] τ Q := by
    refine am_up (P := fun v τ => 0 ≤ v ∧ cfr σ τ ∧ τ 0 12 = 1 ∧ (∀ a, 0 ≤ a → a < v → τ 10 a = -9) ∧ ∀ i j, 0 ≤ i → i < 9 → 0 ≤ j → j < 9 → τ 9 (9 * i + j) = MF (pbM σ) v i j) (C := fun v τ => K (d + 2) mM_begins 26 [.inr 0, .inl s, .inl v] [] τ Q) (fun τ hp => ?_) (fun v τ hvv hp ih => ?_)
    · obtain ⟨-, c, w12, wk, mf⟩ := hp
      refine bM_begins_26 (d := d + 1) hK ⟨by decide, by decide⟩ (fun _ => ?_) (fun g => absurd g (by decide))
      refine bM_begins_57 (d := d + 1) hK (loop3 0 _ m0 ⟨Int.le_refl 0, cfr_tr c (cfr_10 _ _ _), ?_, fun w => ?_⟩)
      · have e0 : am_us τ 10 8 0 0 = τ 0 := us_o _ _ _ (by decide)
        have e9 : am_us τ 10 8 0 9 = τ 9 := us_o _ _ _ (by decide)
        have e00 : τ 0 0 = σ 0 0 := c.2 0 (by decide)
        refine ⟨?_, ?_, ?_, ⟨fun a a0 a8 => ?_, us_e _ _ _ _⟩, ?_⟩
        · rw [e9]
          intro q q0 q1
          have e : q = 9 * (q / 9) + q % 9 := by omega
          rw [e, mf (q / 9) (q % 9) (by omega) (by omega) (by omega) (by omega)]
          exact MF_st hv (by omega) (by omega)
        · rw [e0, e9, e00]
          intro i j i0 i1 j0 j1 hk
          rw [mf i j i0 i1 j0 j1]
          unfold MF
          split
          · omega
          · split
            · rename_i q
              exact absurd ⟨Or.inr q.1, Or.inl ⟨j0, q.2.2⟩⟩ hk
            · split
              · rename_i q
                exact absurd ⟨Or.inl ⟨i0, q.2.2⟩, Or.inr q.1⟩ hk
              · omega
        · rw [e0, e9, e00]
          intro a a0 an
          have g := hv.2.1 a a0 an
          have g1 : MF (pbM σ) 8 8 a = pl (pbM σ) a := by
            unfold MF
            rw [if_neg (by omega), if_pos ⟨rfl, by omega, an⟩]
          have g2 : MF (pbM σ) 8 a 8 = -(pf (pbM σ) a) := by
            unfold MF
            rw [if_neg (by omega), if_neg (by omega), if_pos ⟨rfl, by omega, an⟩]
          rw [show (72 : Int) + a = 9 * 8 + a by omega, mf 8 a (by omega) (by omega) (by omega) (by omega), mf a 8 (by omega) (by omega) (by omega) (by omega), g1, g2]
          omega
        · rw [us_n _ _ _ (by omega : a ≠ 8)]
          exact Or.inl (wk a a0 a8)
        · rw [e0]
          exact Or.inr w12
      · have e0 : am_us τ 10 8 0 0 = τ 0 := us_o _ _ _ (by decide)
        have e9 : am_us τ 10 8 0 9 = τ 9 := us_o _ _ _ (by decide)
        have e00 : τ 0 0 = σ 0 0 := c.2 0 (by decide)
        have hsat : Sat (pn (pbM σ)) (τ 9) w ↔ StpW (pbM σ) w := by
          refine Sat_stp hv (fun a a0 an => ?_) (fun i hi => ?_) (fun i j i0 i1 j0 j1 ij => ?_)
          · have an2 : a < σ 0 0 := an
            rw [show (72 : Int) + a = 9 * 8 + a by omega, mf 8 a (by omega) (by omega) (by omega) (by omega), mf a 8 (by omega) (by omega) (by omega) (by omega)]
            unfold MF
            rw [if_neg (by omega), if_pos ⟨rfl, by omega, an⟩, if_neg (by omega), if_neg (by omega), if_pos ⟨rfl, by omega, an⟩]
            exact ⟨rfl, rfl⟩
          · have ri := nde_r n8 hi
            rw [mf i i ri.1 ri.2 ri.1 ri.2]
            exact if_pos rfl
          · have i2 : i < σ 0 0 := i1
            have j2 : j < σ 0 0 := j1
            rw [mf i j i0 (by omega) j0 (by omega)]
            unfold MF
            rw [if_neg ij, if_neg (by omega), if_neg (by omega)]
        unfold Sol
        rw [e0, e9, e00]
        constructor
        · rintro ⟨a1, -, -⟩
          exact ⟨hsat.mp a1, fun k a b => absurd b (by omega)⟩
        · rintro ⟨a1, -⟩
          refine ⟨hsat.mpr a1, fun a a0 an hne => ?_, w12⟩
          rw [us_n _ _ _ (by omega : a ≠ 8)] at hne
          exact absurd (wk a a0 (by omega)) hne
    · obtain ⟨v0, c, w12, wk, mf⟩ := hp
      refine bM_begins_26 (d := d + 1) hK ⟨by omega, by omega⟩ (fun g => absurd g (by omega)) (fun _ => ?_)
      have c1 : cfr σ (am_us τ 10 v (-9)) := cfr_tr c (cfr_10 _ _ _)
      have w1 : am_us τ 10 v (-9) 0 12 = 1 := by rw [us_o _ _ _ (by decide)]; exact w12
      have k1 : ∀ a, 0 ≤ a → a < v + 1 → am_us τ 10 v (-9) 10 a = -9 := fun a a0 av => by
        rw [us_s]
        split
        · rfl
        · exact wk a a0 (by omega)
      have m1 : ∀ i j, 0 ≤ i → i < 9 → 0 ≤ j → j < 9 → am_us τ 10 v (-9) 9 (9 * i + j) = MF (pbM σ) v i j := fun i j a b e f => by
        rw [us_o _ _ _ (by decide)]
        exact mf i j a b e f
      have z00 : am_us τ 10 v (-9) 0 0 = σ 0 0 := c1.2 0 (by decide)
      have hpn : pn (pbM σ) = σ 0 0 := rfl
      refine bM_begins_29 (d := d + 1) hK (by omega) ⟨by omega, by omega⟩ (by rw [z00]; exact ⟨by omega, by omega⟩) (fun g => ?_) (fun g => ?_)
      · rw [z00] at g
        refine bM_begins_55 (d := d + 1) hK (ih _ ⟨by omega, c1, w1, k1, fun i j a b e f => ?_⟩)
        rw [m1 i j a b e f]
        unfold MF
        repeat' split
        all_goals first | rfl | omega
      · rw [z00] at g
        generalize am_us τ 10 v (-9) = ρ at c1 w1 k1 m1 ⊢
        have r1 : ρ 1 = σ 1 := c1.1 1 (by decide) (by decide) (by decide)
        have r2 : ρ 2 = σ 2 := c1.1 2 (by decide) (by decide) (by decide)
        obtain ⟨g1, g2, g3⟩ := hv.2.1 v v0 g
        have g1 : 0 ≤ σ 1 v := g1
        have g2 : σ 1 v ≤ σ 2 v := g2
        have g3 : σ 2 v ≤ 199 := g3
        have x1 : ρ 9 (9 * 8 + v) = 100000 := by
          rw [m1 8 v (by omega) (by omega) (by omega) (by omega)]
          unfold MF
          rw [if_neg (by omega), if_neg (by omega), if_neg (by omega)]
        have x2 : ρ 9 (9 * v + 8) = 100000 := by
          rw [m1 v 8 (by omega) (by omega) (by omega) (by omega)]
          unfold MF
          rw [if_neg (by omega), if_neg (by omega), if_neg (by omega)]
        refine bM_begins_38 (d := d + 1) hK (by omega) (sM_bounds hK (by omega) (by omega) (by rw [r2]; exact ⟨by omega, by omega⟩) (by rw [x1]; exact ⟨by decide, by decide⟩) ?_)
        have e1 : min (ρ 2 v) (ρ 9 (9 * 8 + v)) = σ 2 v := by rw [x1, r2]; omega
        rw [e1]
        have c2 : cfr σ (am_us ρ 9 (9 * 8 + v) (σ 2 v)) := cfr_tr c1 (cfr_9 _ _ _)
        have q1 : am_us ρ 9 (9 * 8 + v) (σ 2 v) 1 = σ 1 := c2.1 1 (by decide) (by decide) (by decide)
        have y2 : am_us ρ 9 (9 * 8 + v) (σ 2 v) 9 (9 * v + 8) = 100000 := by rw [us_n _ _ _ (by omega)]; exact x2
        refine bM_begins_46 (d := d + 1) hK (by omega) (sM_bounds hK (by omega) (by omega) (by rw [q1]; exact ⟨by omega, by omega⟩) (by rw [y2]; exact ⟨by decide, by decide⟩) ?_)
        have e2 : min (-(am_us ρ 9 (9 * 8 + v) (σ 2 v) 1 v)) (am_us ρ 9 (9 * 8 + v) (σ 2 v) 9 (9 * v + 8)) = -(σ 1 v) := by rw [y2, q1]; omega
        rw [e2]
        refine bM_begins_55 (d := d + 1) hK (ih _ ⟨by omega, cfr_tr c2 (cfr_9 _ _ _), ?_, fun a a0 av => ?_, fun i j a b e f => ?_⟩)
        · rw [us_o _ _ _ (by decide), us_o _ _ _ (by decide)]
          exact w1
        · rw [us_o _ _ _ (by decide), us_o _ _ _ (by decide)]
          exact k1 a a0 av
        · rw [us_s]
          split
          · have ei : i = v := by omega
            have ej : j = 8 := by omega
            subst ei
            subst ej
            unfold MF
            rw [if_neg (by omega), if_neg (by omega), if_pos ⟨rfl, by omega, g⟩]
            rfl
          · rw [us_s]
            split
            · have ei : i = 8 := by omega
              have ej : j = v := by omega
              subst ei
              subst ej
              unfold MF
              rw [if_neg (by omega), if_pos ⟨rfl, by omega, g⟩]
              rfl
            · rw [m1 i j a b e f]
              unfold MF
              repeat' split
              all_goals first | rfl | omega
  -- all is far
  have loop1 : ∀ (x : Int) (τ : am_S), x ≤ 81 → (0 ≤ x ∧ cfr σ τ ∧ τ 0 12 = 1 ∧ ∀ q, 0 ≤ q → q < x → τ 9 q = if q / 9 = q % 9 then 0 else 100000) → K (d + 2) mM_begins 5 [.inr 0, .inl s, .inl x] [] τ Q := by
    refine am_up (P := fun x τ => 0 ≤ x ∧ cfr σ τ ∧ τ 0 12 = 1 ∧ ∀ q, 0 ≤ q → q < x → τ 9 q = if q / 9 = q % 9 then 0 else 100000) (C := fun x τ => K (d + 2) mM_begins 5 [.inr 0, .inl s, .inl x] [] τ Q) (fun τ hp => ?_) (fun x τ hx hp ih => ?_)
    · obtain ⟨-, c, w12, mf⟩ := hp
      refine bM_begins_5 (d := d + 1) hK ⟨by decide, by decide⟩ (fun _ => bM_begins_24 (d := d + 1) hK (loop2 0 τ (by decide) ⟨Int.le_refl 0, c, w12, fun a a0 a1 => absurd a1 (by omega), fun i j a b e f => ?_⟩)) (fun g => absurd g (by decide))
      rw [mf (9 * i + j) (by omega) (by omega)]
      unfold MF
      have d1 : (9 * i + j) / 9 = i := by omega
      have d2 : (9 * i + j) % 9 = j := by omega
      rw [d1, d2]
      repeat' split
      all_goals first | rfl | omega
    · obtain ⟨x0, c, w12, mf⟩ := hp
      have d1 := tdv 9 x0
      have d2 := tmd 9 x0
      have fin : ∀ y, y = (if x / 9 = x % 9 then 0 else 100000) → K (d + 2) mM_begins 21 [.inr 0, .inl s, .inl x] [.inl y, .inl x, .inr 9] τ Q := by
        intro y hy
        refine bM_begins_21 (d := d + 1) hK (by omega) (ih _ ⟨by omega, cfr_tr c (cfr_9 _ _ _), by rw [us_o _ _ _ (by decide)]; exact w12, fun q q0 q1 => ?_⟩)
        rw [us_s]
        split
        · rename_i e
          rw [e]
          exact hy
        · exact mf q q0 (by omega)
      refine bM_begins_5 (d := d + 1) hK ⟨by omega, by omega⟩ (fun g => absurd g (by omega)) (fun _ => ?_)
      refine bM_begins_8 (d := d + 1) hK ⟨by omega, by omega⟩ ⟨by omega, by omega⟩ (by rw [d1]; exact ⟨by omega, by omega⟩) (by rw [d2]; exact ⟨by omega, by omega⟩) (fun g => ?_) (fun g => ?_)
      · rw [d1, d2] at g
        exact bM_begins_20 (d := d + 1) hK (fin 100000 (by rw [if_neg g]))
      · rw [d1, d2] at g
        exact bM_begins_18 (d := d + 1) hK (fin 0 (by rw [if_pos g]))
  exact bM_begins_0 (d := d + 1) hK (loop1 0 _ (by decide) ⟨Int.le_refl 0, cfr_12 _ _, us_e _ _ _ _, fun q q0 q1 => absurd q1 (by omega)⟩)
