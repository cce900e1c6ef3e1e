/-! the class: Ways: sumOfDays, lowerGaps, sweepUp -/
theorem sY_sumOfDays {K : am_KT} (hK : am_C K) {d : Nat} {σ : am_S} {Q : am_Q} (n0 : 0 ≤ σ 17 0) (n8 : σ 17 0 ≤ 8) (h : Q (some (sumI (σ 29) (σ 17 0).toNat)) σ) : K d mY_sumOfDays 0 [.inr 26] [] σ Q := by
  have loop : ∀ (b : Int) (v : Int), b ≤ σ 17 0 → (0 ≤ b ∧ v = sumI (σ 29) b.toNat) → K d mY_sumOfDays 4 [.inr 26, .inl v, .inl b] [] σ Q := by
    refine am_up (P := fun b v => 0 ≤ b ∧ v = sumI (σ 29) b.toNat) (C := fun b v => K d mY_sumOfDays 4 [.inr 26, .inl v, .inl b] [] σ Q) (fun v hp => ?_) (fun b v hb hp ih => ?_)
    · obtain ⟨-, rfl⟩ := hp
      exact bY_sumOfDays_4 hK ⟨by omega, by omega⟩ ⟨by omega, by omega⟩ (fun _ => bY_sumOfDays_18 hK h) (fun g => absurd g (by omega))
    · obtain ⟨b0, rfl⟩ := hp
      refine bY_sumOfDays_4 hK ⟨by omega, by omega⟩ ⟨by omega, by omega⟩ (fun g => absurd g (by omega)) (fun _ => ?_)
      refine bY_sumOfDays_9 hK (by omega) (ih _ ⟨by omega, ?_⟩)
      rw [sumI_s _ b0]
  exact bY_sumOfDays_0 hK (loop 0 0 n0 ⟨Int.le_refl 0, rfl⟩)
theorem sY_lowerGaps {K : am_KT} (hK : am_C K) {d : Nat} {σ : am_S} {Q : am_Q} {a : Int} (n8 : σ 17 0 ≤ 8) (ha : 0 ≤ a ∧ a < σ 17 0) (hx : ∀ b, 0 ≤ b → b < σ 17 0 → 0 ≤ σ 29 b ∧ σ 29 b ≤ 199) (hg : ∀ b, 0 ≤ b → b < σ 17 0 → -200 ≤ σ 32 (a * 8 + b) ∧ σ 32 (a * 8 + b) ≤ 200)
    (h : ∀ σ', qfr 32 σ σ' → (∀ j, (j < a * 8 ∨ a * 8 + 8 ≤ j) → σ' 32 j = σ 32 j) → (∀ b, 0 ≤ b → b < σ 17 0 → σ' 32 (a * 8 + b) = min (σ 32 (a * 8 + b)) (σ 29 b - σ 29 a)) → Q none σ') : K d mY_lowerGaps 0 [.inr 26, .inl a] [] σ Q := by
  have loop : ∀ (b : Int) (τ : am_S), b ≤ σ 17 0 → (0 ≤ b ∧ qfr 32 σ τ ∧ (∀ j, (j < a * 8 ∨ a * 8 + b ≤ j) → τ 32 j = σ 32 j) ∧ (∀ x, 0 ≤ x → x < b → τ 32 (a * 8 + x) = min (σ 32 (a * 8 + x)) (σ 29 x - σ 29 a))) → K d mY_lowerGaps 2 [.inr 26, .inl a, .inl b] [] τ Q := by
    refine am_up (P := fun b τ => 0 ≤ b ∧ qfr 32 σ τ ∧ (∀ j, (j < a * 8 ∨ a * 8 + b ≤ j) → τ 32 j = σ 32 j) ∧ (∀ x, 0 ≤ x → x < b → τ 32 (a * 8 + x) = min (σ 32 (a * 8 + x)) (σ 29 x - σ 29 a))) (C := fun b τ => K d mY_lowerGaps 2 [.inr 26, .inl a, .inl b] [] τ Q) (fun τ hp => ?_) (fun b τ hb hp ih => ?_)
    · obtain ⟨-, c, h1, h2⟩ := hp
      have e : τ 17 = σ 17 := c 17 (by decide)
      exact bY_lowerGaps_2 hK ⟨by omega, by omega⟩ (by rw [e]; exact ⟨by omega, by omega⟩) (fun _ => bY_lowerGaps_38 hK (h τ c (fun j hj => h1 j (by omega)) h2)) (fun g => absurd g (by rw [e]; omega))
    · obtain ⟨b0, c, h1, h2⟩ := hp
      have e : τ 17 = σ 17 := c 17 (by decide)
      have e29 : τ 29 = σ 29 := c 29 (by decide)
      have x1 := hx a ha.1 ha.2
      have x2 := hx b b0 hb
      have x3 := hg b b0 hb
      have e32 := h1 (a * 8 + b) (by omega)
      refine bY_lowerGaps_2 hK ⟨by omega, by omega⟩ (by rw [e]; exact ⟨by omega, by omega⟩) (fun g => absurd g (by rw [e]; omega)) (fun _ => ?_)
      refine bY_lowerGaps_7 hK (by omega) (by omega) (by omega) (by rw [e29]; exact ⟨by omega, by omega⟩) (by rw [e32]; exact ⟨by omega, by omega⟩) (fun g => ?_) (fun g => ?_)
      · rw [e29, e32] at g
        refine bY_lowerGaps_36 hK (ih τ ⟨by omega, c, fun j hj => h1 j (by omega), fun x x0 xb => ?_⟩)
        by_cases ex : x = b
        · rw [ex, e32]
          omega
        · exact h2 x x0 (by omega)
      · rw [e29, e32] at g
        refine bY_lowerGaps_27 hK (by omega) (bY_lowerGaps_36 hK (ih _ ⟨by omega, fun cc hc => by rw [us_o _ _ _ hc]; exact c cc hc, fun j hj => ?_, fun x x0 xb => ?_⟩))
        · rw [us_n _ _ _ (by omega)]
          exact h1 j (by omega)
        · rw [us_s, e29]
          by_cases ex : x = b
          · rw [if_pos (by omega), ex]
            omega
          · rw [if_neg (by omega)]
            exact h2 x x0 (by omega)
  exact bY_lowerGaps_0 hK (loop 0 σ (by omega) ⟨Int.le_refl 0, fun _ _ => rfl, fun _ _ => rfl, fun x x0 xb => absurd xb (by omega)⟩)
/-- the frame of sweepUp -/
def ufr (a : Int) (σ σ' : am_S) : Prop := (∀ c, (c < 29 ∨ 32 < c) → σ' c = σ c) ∧ (∀ j, (j < a * 200 ∨ a * 200 + 200 ≤ j) → σ' 30 j = σ 30 j) ∧ (∀ j, j ≠ a → σ' 31 j = σ 31 j) ∧ (∀ j, (j < a * 8 ∨ a * 8 + 8 ≤ j) → σ' 32 j = σ 32 j)
/-- what stands below day y -/
def UpV (n : Int) (W : WS) (a y : Int) (σ : am_S) : Prop := (∀ t, 0 ≤ t → t < y → LsE n W a t (σ 30 (a * 200 + t))) ∧ σ 31 a = cnt (Can W a) y.toNat ∧ ∀ b, 0 ≤ b → b < n → (∀ w, W w → w a < y → σ 32 (a * 8 + b) ≤ w b - w a) ∧ (σ 32 (a * 8 + b) = 200 ∨ ∃ w, W w ∧ w b - w a = σ 32 (a * 8 + b))
def UpD (n : Int) (W : WS) (a y is : Int) (x : Int → Int) : Prop := (is = 1 ∧ W x ∧ ∀ w, W w → y ≤ w a → ∀ b, 0 ≤ b → b < n → x b ≤ w b) ∨ (is = 0 ∧ ∀ w, W w → w a < y)
theorem cnt_st {p : Int → Prop} {y : Int} (y0 : 0 ≤ y) : cnt p (y + 1).toNat = cnt p y.toNat + ic (p y) 1 0 := by
  rw [show (y + 1).toNat = y.toNat + 1 by omega, cnt, show ((y.toNat : Nat) : Int) = y by omega]
set_option maxHeartbeats 2000000 in
theorem sY_sweepUp {K : am_KT} (hK : am_C K) {d : Nat} {σ : am_S} {Q : am_Q} {a : Int} {W : WS} (n8 : σ 17 0 ≤ 8) (ha : 0 ≤ a ∧ a < σ 17 0) (hV : WebV σ 34 (σ 17 0) 20) (hS : ∀ w, wSol σ 34 w ↔ W w) (hL : LGW (σ 17 0) W (-9) 0 (σ 27) (σ 28)) (hR : ∀ w, W w → ∀ a, 0 ≤ a → a < σ 17 0 → 0 ≤ w a ∧ w a ≤ 199)
    (h : ∀ σ', ufr a σ σ' → UpV (σ 17 0) W a 200 σ' → Q none σ') : K (d + 2) mY_sweepUp 0 [.inr 26, .inl a] [] σ Q := by
  obtain ⟨v1, v2, v3, v4, v5⟩ := id hV
  have torn : σ 34 1 = 0 := ((hS _).mpr hL.1.1).1
  have hW : ∀ w, W w ↔ wLk σ 34 w ∧ btw (σ 17 0) (σ 35) (σ 36) w := fun w => by
    rw [← hS w]
    unfold wSol
    rw [wSat_iff, v1]
    exact ⟨fun z => z.2, fun z => ⟨torn, z⟩⟩
  have hL2 : ∀ w, W w → ∀ b, 0 ≤ b → b < σ 17 0 → σ 27 b ≤ w b ∧ w b ≤ σ 28 b := fun w hw => hL.2.2 w (WP_n.mpr hw)
  have h28 : ∀ b, 0 ≤ b → b < σ 17 0 → 0 ≤ σ 28 b ∧ σ 28 b ≤ 199 := fun b b0 bn => hR _ hL.2.1.1 b b0 bn
  -- the loop over the days
  have loop : ∀ (y : Int) (t : Int × am_S), y ≤ 200 → (0 ≤ y ∧ ufr a σ t.2 ∧ UpV (σ 17 0) W a y t.2 ∧ UpD (σ 17 0) W a (y - 1) t.1 (t.2 29)) → K (d + 2) mY_sweepUp 35 [.inr 26, .inl a, .inl t.1, .inl y] [] t.2 Q := by
    refine am_up (P := fun y (t : Int × am_S) => 0 ≤ y ∧ ufr a σ t.2 ∧ UpV (σ 17 0) W a y t.2 ∧ UpD (σ 17 0) W a (y - 1) t.1 (t.2 29)) (C := fun y t => K (d + 2) mY_sweepUp 35 [.inr 26, .inl a, .inl t.1, .inl y] [] t.2 Q) (fun t hp => ?_) (fun y t hy hp ih => ?_)
    · obtain ⟨is, τ⟩ := t
      obtain ⟨-, c, hu, -⟩ := hp
      dsimp only at c hu ⊢
      exact bY_sweepUp_35 (d := d + 1) hK ⟨by decide, by decide⟩ (fun _ => bY_sweepUp_115 (d := d + 1) hK (h τ c hu)) (fun g => absurd g (by decide))
    · obtain ⟨is, τ⟩ := t
      obtain ⟨y0, c, hu, hd⟩ := hp
      dsimp only at c hu hd ih ⊢
      have fr : ∀ c', (c' < 29 ∨ 32 < c') → τ c' = σ c' := c.1
      have e17 : τ 17 = σ 17 := fr 17 (by decide)
      refine bY_sweepUp_35 (d := d + 1) hK ⟨by omega, by omega⟩ (fun g => absurd g (by omega)) (fun _ => ?_)
      -- behind the move
      have fin : ∀ (is' : Int) (υ : am_S), qfr 29 τ υ → UpD (σ 17 0) W a y is' (υ 29) → (is' = 1 → y ≤ υ 29 a) → K (d + 2) mY_sweepUp 74 [.inr 26, .inl a, .inl is', .inl y] [] υ Q := by
        intro is' υ cu hD hya
        have ri : am_rng is' := by rcases hD with q | q <;> (rw [q.1]; exact ⟨by decide, by decide⟩)
        have u30 : υ 30 = τ 30 := cu 30 (by decide)
        have u31 : υ 31 = τ 31 := cu 31 (by decide)
        have u32 : υ 32 = τ 32 := cu 32 (by decide)
        have u17 : υ 17 = σ 17 := (cu 17 (by decide)).trans e17
        have cl : ¬ Can W a y → K (d + 2) mY_sweepUp 104 [.inr 26, .inl a, .inl is', .inl y] [] υ Q := fun hno => by
          refine bY_sweepUp_104 (d := d + 1) hK (by omega) (bY_sweepUp_113 (d := d + 1) hK (ih (is', am_us υ 30 (a * 200 + y) (-1)) ⟨by omega, ⟨fun c' hc' => ?_, fun j hj => ?_, fun j hj => ?_, fun j hj => ?_⟩, ⟨fun t t0 ty => ?_, ?_, fun b b0 bn => ?_⟩, ?_⟩))
          · show am_us υ 30 (a * 200 + y) (-1) c' = σ c'
            rw [us_o _ _ _ (by omega), cu c' (by omega)]
            exact fr c' hc'
          · show am_us υ 30 (a * 200 + y) (-1) 30 j = σ 30 j
            rw [us_n _ _ _ (by omega), u30]
            exact c.2.1 j hj
          · show am_us υ 30 (a * 200 + y) (-1) 31 j = σ 31 j
            rw [us_o _ _ _ (by decide), u31]
            exact c.2.2.1 j hj
          · show am_us υ 30 (a * 200 + y) (-1) 32 j = σ 32 j
            rw [us_o _ _ _ (by decide), u32]
            exact c.2.2.2 j hj
          · show LsE (σ 17 0) W a t (am_us υ 30 (a * 200 + y) (-1) 30 (a * 200 + t))
            rw [us_s]
            by_cases e : t = y
            · rw [if_pos (by omega), e]
              exact Or.inl ⟨rfl, hno⟩
            · rw [if_neg (by omega), u30]
              exact hu.1 t t0 (by omega)
          · show am_us υ 30 (a * 200 + y) (-1) 31 a = _
            rw [us_o _ _ _ (by decide), u31, cnt_st y0, ic_f hno, hu.2.1]
            omega
          · show (∀ w, W w → w a < y + 1 → am_us υ 30 (a * 200 + y) (-1) 32 (a * 8 + b) ≤ w b - w a) ∧ (am_us υ 30 (a * 200 + y) (-1) 32 (a * 8 + b) = 200 ∨ ∃ w, W w ∧ w b - w a = am_us υ 30 (a * 200 + y) (-1) 32 (a * 8 + b))
            rw [us_o _ _ _ (by decide), u32]
            refine ⟨fun w hw hwa => (hu.2.2 b b0 bn).1 w hw ?_, (hu.2.2 b b0 bn).2⟩
            have : w a ≠ y := fun e => hno ⟨w, hw, e⟩
            omega
          · show UpD (σ 17 0) W a (y + 1 - 1) is' (am_us υ 30 (a * 200 + y) (-1) 29)
            rw [us_o _ _ _ (by decide), show y + 1 - 1 = y by omega]
            exact hD
        refine bY_sweepUp_74 (d := d + 1) hK ri (fun g => cl ?_) (fun g => ?_)
        · rintro ⟨w, hw, e⟩
          rcases hD with q | q
          · omega
          · have := q.2 w hw
            omega
        · have hi1 : is' = 1 := by rcases hD with q | q; exact q.1; exact absurd q.1 g
          have hD2 : W (υ 29) ∧ ∀ w, W w → y ≤ w a → ∀ b, 0 ≤ b → b < σ 17 0 → υ 29 b ≤ w b := by
            rcases hD with q | q
            · exact q.2
            · exact absurd q.1 g
          have hra := hR _ hD2.1 a ha.1 ha.2
          have hya2 := hya hi1
          refine bY_sweepUp_76 (d := d + 1) hK (by omega) ⟨by omega, by omega⟩ ⟨by omega, by omega⟩ (fun g2 => cl ?_) (fun g2 => ?_)
          · rintro ⟨w, hw, e⟩
            have := hD2.2 w hw (by omega) a ha.1 ha.2
            omega
          · have hcan : Can W a y := ⟨_, hD2.1, g2⟩
            refine bY_sweepUp_82 (d := d + 1) hK (by omega) (by omega) ?_
            generalize hυ1 : am_us υ 31 a (υ 31 a + 1) = υ1
            have w1 : ∀ c', c' ≠ 31 → υ1 c' = υ c' := fun c' hc' => by rw [← hυ1, us_o _ _ _ hc']
            have w31 : ∀ j, υ1 31 j = if j = a then υ 31 a + 1 else υ 31 j := fun j => by rw [← hυ1, us_s]
            have w17 : υ1 17 0 = σ 17 0 := by rw [w1 17 (by decide), u17]
            refine sY_sumOfDays hK (by rw [w17]; omega) (by rw [w17]; exact n8) ?_
            rw [w17, w1 29 (by decide)]
            refine bY_sweepUp_99 (d := d + 1) hK (by omega) ?_
            generalize hυ2 : am_us υ1 30 (a * 200 + y) (sumI (υ 29) (σ 17 0).toNat) = υ2
            have z1 : ∀ c', c' ≠ 30 → υ2 c' = υ1 c' := fun c' hc' => by rw [← hυ2, us_o _ _ _ hc']
            have z30 : ∀ j, υ2 30 j = if j = a * 200 + y then sumI (υ 29) (σ 17 0).toNat else τ 30 j := fun j => by rw [← hυ2, us_s, w1 30 (by decide), u30]
            have z17 : υ2 17 0 = σ 17 0 := by rw [z1 17 (by decide), w17]
            have z29 : υ2 29 = υ 29 := by rw [z1 29 (by decide), w1 29 (by decide)]
            have z32 : υ2 32 = τ 32 := by rw [z1 32 (by decide), w1 32 (by decide), u32]
            have z31 : ∀ j, υ2 31 j = if j = a then τ 31 a + 1 else τ 31 j := fun j => by rw [z1 31 (by decide), w31, u31]
            refine sY_lowerGaps hK (by rw [z17]; exact n8) (by rw [z17]; exact ha) (fun b b0 bn => ?_) (fun b b0 bn => ?_) (fun υ3 c3 g3 g4 => ?_)
            · rw [z29]
              rw [z17] at bn
              exact hR _ hD2.1 b b0 bn
            · rw [z17] at bn
              rw [z32]
              rcases (hu.2.2 b b0 bn).2 with q | ⟨w, hw, q⟩
              · omega
              · have := hR _ hw b b0 bn
                have := hR _ hw a ha.1 ha.2
                omega
            · rw [z32] at g3 g4
              rw [z29, z17] at g4
              have k30 : υ3 30 = υ2 30 := c3 30 (by decide)
              have k31 : υ3 31 = υ2 31 := c3 31 (by decide)
              refine bY_sweepUp_103 (d := d + 1) hK (bY_sweepUp_113 (d := d + 1) hK (ih (is', υ3) ⟨by omega, ⟨fun c' hc' => ?_, fun j hj => ?_, fun j hj => ?_, fun j hj => ?_⟩, ⟨fun t t0 ty => ?_, ?_, fun b b0 bn => ?_⟩, ?_⟩))
              · show υ3 c' = σ c'
                rw [c3 c' (by omega), z1 c' (by omega), w1 c' (by omega), cu c' (by omega)]
                exact fr c' hc'
              · show υ3 30 j = σ 30 j
                rw [k30, z30, if_neg (by omega)]
                exact c.2.1 j hj
              · show υ3 31 j = σ 31 j
                rw [k31, z31, if_neg hj]
                exact c.2.2.1 j hj
              · show υ3 32 j = σ 32 j
                rw [g3 j hj]
                exact c.2.2.2 j hj
              · show LsE (σ 17 0) W a t (υ3 30 (a * 200 + t))
                rw [k30, z30]
                by_cases e : t = y
                · rw [if_pos (by omega), e]
                  exact Or.inr ⟨υ 29, hD2.1, g2, fun w hw he b b0 bn => hD2.2 w hw (by omega) b b0 bn, rfl⟩
                · rw [if_neg (by omega)]
                  exact hu.1 t t0 (by omega)
              · show υ3 31 a = _
                rw [k31, z31, if_pos rfl, cnt_st y0, ic_t hcan, hu.2.1]
              · show (∀ w, W w → w a < y + 1 → υ3 32 (a * 8 + b) ≤ w b - w a) ∧ (υ3 32 (a * 8 + b) = 200 ∨ ∃ w, W w ∧ w b - w a = υ3 32 (a * 8 + b))
                rw [g4 b b0 bn]
                obtain ⟨p1, p2⟩ := hu.2.2 b b0 bn
                refine ⟨fun w hw hwa => ?_, ?_⟩
                · by_cases e : w a = y
                  · have := hD2.2 w hw (by omega) b b0 bn
                    omega
                  · have := p1 w hw (by omega)
                    omega
                · by_cases hm : τ 32 (a * 8 + b) ≤ υ 29 b - υ 29 a
                  · rw [Int.min_eq_left hm]
                    exact p2
                  · rw [Int.min_eq_right (by omega)]
                    exact Or.inr ⟨υ 29, hD2.1, rfl⟩
              · show UpD (σ 17 0) W a (y + 1 - 1) is' (υ3 29)
                rw [c3 29 (by decide), z29, show y + 1 - 1 = y by omega]
                exact hD
      -- the move
      have ri : am_rng is := by rcases hd with q | q <;> (rw [q.1]; exact ⟨by decide, by decide⟩)
      refine bY_sweepUp_38 (d := d + 1) hK ri (fun g => fin is τ (fun _ _ => rfl) (Or.inr ⟨g, fun w hw => ?_⟩) (fun q => by omega)) (fun g => ?_)
      · rcases hd with q | q
        · omega
        · have := q.2 w hw
          omega
      · have hD2 : is = 1 ∧ W (τ 29) ∧ ∀ w, W w → y - 1 ≤ w a → ∀ b, 0 ≤ b → b < σ 17 0 → τ 29 b ≤ w b := by
          rcases hd with q | q
          · exact q
          · exact absurd q.1 g
        have hra := hR _ hD2.2.1 a ha.1 ha.2
        refine bY_sweepUp_40 (d := d + 1) hK (by omega) ⟨by omega, by omega⟩ ⟨by omega, by omega⟩ (fun g2 => fin is τ (fun _ _ => rfl) (Or.inl ⟨hD2.1, hD2.2.1, fun w hw hy2 => hD2.2.2 w hw (by omega)⟩) (fun _ => g2)) (fun g2 => ?_)
        have wd := (v3 a ha.1 ha.2).2.2
        have e37 : τ (34 + 3) = σ (34 + 3) := fr (34 + 3) (by decide)
        refine bY_sweepUp_46 (d := d + 1) hK (sW_notBefore hK (Or.inl rfl) (by omega) (by rw [e37]; exact wd) y0 (by omega) (fun z hz => ?_))
        rw [e37] at hz
        obtain ⟨z1, z2, z3, z4⟩ := hz
        have zle : ∀ w, W w → y ≤ w a → z ≤ w a := fun w hw hy2 => z4 (w a) hy2 (fun hne => ((hW w).mp hw).1.1 a ha.1 (by rw [v1]; exact ha.2) hne)
        have e1 : am_us τ 29 a z 29 a = z := us_e _ _ _ _
        have e2 : am_us τ 29 a z 28 = σ 28 := by rw [us_o _ _ _ (by decide)]; exact fr 28 (by decide)
        have h28a := h28 a ha.1 ha.2
        have cq : qfr 29 τ (am_us τ 29 a z) := fun c' hc' => by rw [us_o _ _ _ hc']
        refine bY_sweepUp_54 (d := d + 1) hK (by omega) (by omega) (by omega) (by rw [e1]; exact ⟨by omega, by omega⟩) (by rw [e2]; exact ⟨by omega, by omega⟩) (fun g3 => ?_) (fun g3 => ?_)
        · rw [e1, e2] at g3
          refine bY_sweepUp_72 (d := d + 1) hK (bY_sweepUp_73 (d := d + 1) hK (fin 0 _ cq (Or.inr ⟨rfl, fun w hw => ?_⟩) (fun q => by omega)))
          have q1 := hL2 w hw a ha.1 ha.2
          by_cases q2 : y ≤ w a
          · have := zle w hw q2
            omega
          · omega
        · rw [e1, e2] at g3
          generalize hτ1 : am_us τ 29 a z = τ1 at cq
          have k29 : ∀ j, τ1 29 j = if j = a then z else τ 29 j := fun j => by rw [← hτ1, us_s]
          have fr1 : ∀ c', (c' < 29 ∨ 32 < c') → τ1 c' = σ c' := fun c' hc' => (cq c' (by omega)).trans (fr c' hc')
          have V1 : WebV τ1 34 (σ 17 0) 20 := by
            unfold WebV
            rw [fr1 34 (by decide), fr1 (34 + 1) (by decide), fr1 (34 + 2) (by decide), fr1 (34 + 3) (by decide), fr1 (34 + 4) (by decide), fr1 (34 + 5) (by decide), fr1 (34 + 6) (by decide)]
            exact hV
          have L1 : wLk τ1 34 = wLk σ 34 := by
            unfold wLk
            rw [fr1 34 (by decide), fr1 (34 + 3) (by decide), fr1 (34 + 4) (by decide), fr1 (34 + 5) (by decide), fr1 (34 + 6) (by decide)]
          have hx := (hW _).mp hD2.2.1
          have hxa := (hW _).mp hL.2.1.1
          refine bY_sweepUp_64 (d := d + 1) hK (sW_rise hK (Or.inl rfl) (Or.inr (Or.inr (Or.inl rfl))) (by omega) n8 V1 (fun b b0 bn => ?_) (fun b b0 bn => ?_) (fun b σ2 c2 hb => ?_))
          · rw [k29]
            split
            · omega
            · exact (hR _ hD2.2.1 b b0 bn).1
          · rw [fr1 (34 + 2) (by decide), fr1 (34 + 3) (by decide), k29]
            by_cases e : b = a
            · rw [if_pos e, e]
              refine ⟨⟨Int.le_refl _, ?_⟩, z3⟩
              have := (hxa.2 a ha.1 ha.2).2
              show z ≤ σ 36 a
              omega
            · rw [if_neg e]
              exact ⟨⟨Int.le_refl _, (hx.2 b b0 bn).2⟩, hx.1.1 b b0 (by rw [v1]; exact bn)⟩
          · rw [L1, fr1 (34 + 2) (by decide), fr1 (34 + 3) (by decide)] at hb
            have cq2 : qfr 29 τ σ2 := fun c' hc' => (c2 c' hc').trans (cq c' hc')
            have inb : ∀ w, W w → y ≤ w a → wLk σ 34 w ∧ btw (σ 17 0) (τ1 29) (σ 36) w := fun w hw hy2 => by
              have hw2 := (hW w).mp hw
              refine ⟨hw2.1, fun b b0 bn => ⟨?_, (hw2.2 b b0 bn).2⟩⟩
              rw [k29]
              split
              · rename_i e
                rw [e]
                exact zle w hw hy2
              · exact hD2.2.2 w hw (by omega) b b0 bn
            have rb : am_rng b := by rcases hb with q | q <;> (rw [q.1]; exact ⟨by decide, by decide⟩)
            refine bY_sweepUp_69 (d := d + 1) hK rb (fun g4 => ?_) (fun g4 => ?_)
            · refine bY_sweepUp_72 (d := d + 1) hK (bY_sweepUp_73 (d := d + 1) hK (fin 0 _ cq2 (Or.inr ⟨rfl, fun w hw => ?_⟩) (fun q => by omega)))
              rcases hb with q | q
              · omega
              · by_cases q2 : y ≤ w a
                · obtain ⟨q3, q4⟩ := inb w hw q2
                  exact absurd q4 (q.2 w q3)
                · omega
            · obtain ⟨-, hb1, hb2, hb3⟩ : b = 1 ∧ dOK (σ 17 0) (σ (34 + 3)) (τ1 29) (σ (34 + 2)) (σ2 29) ∧ wLk σ 34 (σ2 29) ∧ ∀ w, wLk σ 34 w → btw (σ 17 0) (τ1 29) (σ (34 + 2)) w → ∀ a, 0 ≤ a → a < σ 17 0 → σ2 29 a ≤ w a := by
                rcases hb with q | q
                · exact q
                · exact absurd q.1 g4
              refine bY_sweepUp_70 (d := d + 1) hK (bY_sweepUp_73 (d := d + 1) hK (fin 1 _ cq2 (Or.inl ⟨rfl, ?_, fun w hw hy2 => ?_⟩) (fun _ => ?_)))
              · refine (hW _).mpr ⟨hb2, fun b b0 bn => ?_⟩
                have q1 := (hb1 b b0 bn).1
                have q2 := (hx.2 b b0 bn).1
                refine ⟨?_, q1.2⟩
                rw [k29] at q1
                by_cases e : b = a
                · rw [if_pos e] at q1
                  rw [e] at q1 q2 ⊢
                  omega
                · rw [if_neg e] at q1
                  omega
              · obtain ⟨q3, q4⟩ := inb w hw hy2
                exact hb3 w q3 q4
              · have q1 := (hb1 a ha.1 ha.2).1
                rw [k29, if_pos rfl] at q1
                omega
  -- the beginning
  have loop0 : ∀ (b : Int) (τ : am_S), b ≤ σ 17 0 → (0 ≤ b ∧ ufr a σ τ ∧ τ 31 a = 0 ∧ ∀ x, 0 ≤ x → x < b → τ 32 (a * 8 + x) = 200 ∧ τ 29 x = σ 27 x) → K (d + 2) mY_sweepUp 7 [.inr 26, .inl a, .inl b] [] τ Q := by
    refine am_up (P := fun b τ => 0 ≤ b ∧ ufr a σ τ ∧ τ 31 a = 0 ∧ ∀ x, 0 ≤ x → x < b → τ 32 (a * 8 + x) = 200 ∧ τ 29 x = σ 27 x) (C := fun b τ => K (d + 2) mY_sweepUp 7 [.inr 26, .inl a, .inl b] [] τ Q) (fun τ hp => ?_) (fun b τ hb hp ih => ?_)
    · obtain ⟨-, c, h31, hx⟩ := hp
      have e17 : τ 17 = σ 17 := c.1 17 (by decide)
      have ext : W (τ 29) := by
        refine (hW _).mpr ?_
        have q := (hW _).mp hL.1.1
        refine ⟨⟨fun b b0 bn hne => ?_, fun k k0 k1 => ?_⟩, fun b b0 bn => ?_⟩
        · rw [v1] at bn
          rw [(hx b b0 bn).2]
          exact q.1.1 b b0 (by rw [v1]; exact bn) hne
        · obtain ⟨k2, k3, -⟩ := v5 k k0 k1
          rw [(hx _ k2.1 k2.2).2, (hx _ k3.1 k3.2).2]
          exact q.1.2 k k0 k1
        · rw [(hx b b0 bn).2]
          exact q.2 b b0 bn
      refine bY_sweepUp_7 (d := d + 1) hK ⟨by omega, by omega⟩ (by rw [e17]; exact ⟨by omega, by omega⟩) (fun _ => bY_sweepUp_31 (d := d + 1) hK (loop 0 (1, τ) (by decide) ⟨Int.le_refl 0, c, ⟨fun t t0 ty => absurd ty (by omega), h31, fun b b0 bn => ⟨fun w hw hwa => ?_, Or.inl (hx b b0 bn).1⟩⟩, Or.inl ⟨rfl, ext, fun w hw _ b b0 bn => ?_⟩⟩)) (fun g => absurd g (by rw [e17]; omega))
      · have := (hR w hw a ha.1 ha.2).1
        omega
      · show τ 29 b ≤ w b
        rw [(hx b b0 bn).2]
        exact (hL2 w hw b b0 bn).1
    · obtain ⟨b0, c, h31, hx⟩ := hp
      have e17 : τ 17 = σ 17 := c.1 17 (by decide)
      refine bY_sweepUp_7 (d := d + 1) hK ⟨by omega, by omega⟩ (by rw [e17]; exact ⟨by omega, by omega⟩) (fun g => absurd g (by rw [e17]; omega)) (fun _ => ?_)
      refine bY_sweepUp_12 (d := d + 1) hK (by omega) (by omega) (by omega) ?_
      rw [us_o (k := 27) _ _ _ (by decide), c.1 27 (by decide)]
      refine ih _ ⟨by omega, ⟨fun c' hc' => ?_, fun j hj => ?_, fun j hj => ?_, fun j hj => ?_⟩, ?_, fun x x0 xb => ⟨?_, ?_⟩⟩
      · rw [us_o _ _ _ (by omega), us_o _ _ _ (by omega)]
        exact c.1 c' hc'
      · rw [us_o _ _ _ (by decide), us_o _ _ _ (by decide)]
        exact c.2.1 j hj
      · rw [us_o _ _ _ (by decide), us_o _ _ _ (by decide)]
        exact c.2.2.1 j hj
      · rw [us_o _ _ _ (by decide), us_n _ _ _ (by omega)]
        exact c.2.2.2 j hj
      · rw [us_o _ _ _ (by decide), us_o _ _ _ (by decide)]
        exact h31
      · rw [us_o _ _ _ (by decide), us_s]
        by_cases e : x = b
        · rw [if_pos (by omega)]
        · rw [if_neg (by omega)]
          exact (hx x x0 (by omega)).1
      · rw [us_s]
        by_cases e : x = b
        · rw [if_pos e, e]
        · rw [if_neg e, us_o _ _ _ (by decide)]
          exact (hx x x0 (by omega)).2
  refine bY_sweepUp_0 (d := d + 1) hK (by omega) (loop0 0 _ (by omega) ⟨Int.le_refl 0, ⟨fun c' hc' => ?_, fun j hj => ?_, fun j hj => ?_, fun j hj => ?_⟩, us_e _ _ _ _, fun x x0 xb => absurd xb (by omega)⟩)
  · rw [us_o _ _ _ (by omega)]
  · rw [us_o _ _ _ (by decide)]
  · rw [us_n _ _ _ hj]
  · rw [us_o _ _ _ (by decide)]
