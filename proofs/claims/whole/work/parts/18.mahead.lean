/-! the reference: what is ahead of what -/
theorem mk_s (p : Int → Prop) {k : Int} (k0 : 0 ≤ k) : mk p (k + 1).toNat = mk p k.toNat ||| icn (p k) (2 ^ k.toNat) 0 := by
  rw [show (k + 1).toNat = k.toNat + 1 by omega, mk, show ((k.toNat : Nat) : Int) = k by omega]
theorem shl_i {k : Int} (k0 : 0 ≤ k) (k1 : k < 31) : am_shl 1 k = ((2 ^ k.toNat : Nat) : Int) := by
  have h := shl_nat k.toNat (by omega)
  rw [show ((k.toNat : Nat) : Int) = k by omega] at h
  exact h
theorem pow_le10 {k : Int} (k1 : k ≤ 10) : 2 ^ k.toNat ≤ 1024 := Nat.pow_le_pow_right (n := 2) (by decide) (show k.toNat ≤ 10 by omega)
theorem pow_lt8 {k : Int} (k1 : k ≤ 8) : 2 ^ k.toNat ≤ 256 := Nat.pow_le_pow_right (n := 2) (by decide) (show k.toNat ≤ 8 by omega)
theorem icn_lt {p : Prop} {a : Nat} (h : a ≤ 1024) : icn p a 0 ≤ 1024 := by
  by_cases q : p
  · rw [icn_t q]; exact h
  · rw [icn_f q]; omega
theorem mk_or (p : Int → Prop) {k : Int} (k0 : 0 ≤ k) (k1 : k ≤ 10) : am_or (mk p k.toNat : Int) (icn (p k) (2 ^ k.toNat) 0 : Int) = (mk p (k + 1).toNat : Int) := by
  have h1 := mk_lt p k.toNat
  have h2 := pow_le10 k1
  have h3 := icn_lt (p := p k) h2
  rw [or_nat (by omega) (by omega), mk_s p k0]
def hfr (σ σ' : am_S) : Prop := (∀ c, c ≠ 0 → c ≠ 9 → c ≠ 10 → c ≠ 11 → c ≠ 12 → σ' c = σ c) ∧ ∀ j, j ≠ 12 → σ' 0 j = σ 0 j
theorem hfr_tr {σ σ1 σ2 : am_S} (h1 : hfr σ σ1) (h2 : hfr σ1 σ2) : hfr σ σ2 := ⟨fun c a b e f g => (h2.1 c a b e f g).trans (h1.1 c a b e f g), fun j hj => (h2.2 j hj).trans (h1.2 j hj)⟩
theorem hfr_g {σ σ' : am_S} (h : gfr σ σ') : hfr σ σ' := ⟨fun c a b e f _ => h.1 c a b e f, h.2⟩
theorem hfr_rf (σ : am_S) : hfr σ σ := ⟨fun _ _ _ _ _ _ => rfl, fun _ _ => rfl⟩
theorem hfr_12 (σ : am_S) (i v : Int) : hfr σ (am_us σ 12 i v) := ⟨fun c _ _ _ _ h => us_o σ i v h, fun j _ => by rw [us_o σ i v (by decide : (0 : Nat) ≠ 12)]⟩
theorem mfr_h {σ σ' : am_S} (h : hfr σ σ') : mfr σ σ' := ⟨fun c a b => h.1 c a (by omega) (by omega) (by omega) (by omega), h.2⟩
/-- the sets of those ahead, as the reference holds them -/
def AhI (σ : am_S) (σ' : am_S) : Prop := ∀ b, 0 ≤ b → b < 8 → σ' 12 b = if b < σ 0 0 then (ahm (σ 0 0) (WM σ) b : Int) else 0
theorem sM_findAhead {K : am_KT} (hK : am_C K) {d : Nat} {σ : am_S} {Q : am_Q} (hm : Mok σ) (hE : Exi (WM σ))
    (h : ∀ σ', hfr σ σ' → AhI σ σ' → Q none σ') : K (d + 6) mM_findAhead 0 [.inr 0] [] σ Q := by
  have n0 : 0 ≤ σ 0 0 := hm.1.1.1
  have n8 : σ 0 0 ≤ 8 := hm.1.1.2
  have outer : ∀ (a : Int) (τ : am_S), a ≤ σ 0 0 → (0 ≤ a ∧ hfr σ τ ∧ ∀ b, 0 ≤ b → b < 8 → τ 12 b = if b < σ 0 0 then (mk (fun a => Ahd (WM σ) a b) a.toNat : Int) else 0) → K (d + 6) mM_findAhead 14 [.inr 0, .inl a] [] τ Q := by
    refine am_up (P := fun a τ => 0 ≤ a ∧ hfr σ τ ∧ ∀ b, 0 ≤ b → b < 8 → τ 12 b = if b < σ 0 0 then (mk (fun a => Ahd (WM σ) a b) a.toNat : Int) else 0) (C := fun a τ => K (d + 6) mM_findAhead 14 [.inr 0, .inl a] [] τ Q) (fun τ hp => ?_) (fun a τ ha hp ih => ?_)
    · obtain ⟨-, c, h1⟩ := hp
      have e00 : τ 0 0 = σ 0 0 := c.2 0 (by decide)
      exact bM_findAhead_14 (d := d + 5) hK ⟨by omega, by omega⟩ (by rw [e00]; exact ⟨by omega, by omega⟩) (fun _ => bM_findAhead_51 (d := d + 5) hK (h τ c h1)) (fun g => absurd g (by omega))
    · obtain ⟨a0, c, h1⟩ := hp
      have e00 : τ 0 0 = σ 0 0 := c.2 0 (by decide)
      have cm := mfr_h c
      refine bM_findAhead_14 (d := d + 5) hK ⟨by omega, by omega⟩ (by rw [e00]; exact ⟨by omega, by omega⟩) (fun g => absurd g (by omega)) (fun _ => ?_)
      refine bM_findAhead_18 (d := d + 5) hK (sM_findGaps hK (Mok_m cm hm) (by omega) (by rw [WM_m cm]; exact hE) (fun σ2 c2 hg => ?_))
      rw [WM_m cm, e00] at hg
      refine bM_findAhead_21 (d := d + 5) hK ?_
      have k12 : σ2 12 = τ 12 := c2.1 12 (by decide) (by decide) (by decide) (by decide)
      have inner : ∀ (b : Int) (ρ : am_S), b ≤ σ 0 0 → (0 ≤ b ∧ hfr σ ρ ∧ ρ 11 = σ2 11 ∧ (∀ b', 0 ≤ b' → b' < b → ρ 12 b' = (mk (fun a => Ahd (WM σ) a b') (a + 1).toNat : Int)) ∧ (∀ b', b ≤ b' → ρ 12 b' = τ 12 b')) → K (d + 6) mM_findAhead 23 [.inr 0, .inl a, .inl b] [] ρ Q := by
        refine am_up (P := fun b ρ => 0 ≤ b ∧ hfr σ ρ ∧ ρ 11 = σ2 11 ∧ (∀ b', 0 ≤ b' → b' < b → ρ 12 b' = (mk (fun a => Ahd (WM σ) a b') (a + 1).toNat : Int)) ∧ (∀ b', b ≤ b' → ρ 12 b' = τ 12 b')) (C := fun b ρ => K (d + 6) mM_findAhead 23 [.inr 0, .inl a, .inl b] [] ρ Q) (fun ρ hp => ?_) (fun b ρ hb hp ih2 => ?_)
        · obtain ⟨-, cρ, -, q1, q2⟩ := hp
          have g00 : ρ 0 0 = σ 0 0 := cρ.2 0 (by decide)
          refine bM_findAhead_23 (d := d + 5) hK ⟨by omega, by omega⟩ (by rw [g00]; exact ⟨by omega, by omega⟩) (fun _ => bM_findAhead_49 (d := d + 5) hK (ih ρ ⟨by omega, cρ, fun b b0 b8 => ?_⟩)) (fun g => absurd g (by omega))
          by_cases e : b < σ 0 0
          · rw [if_pos e]
            exact q1 b b0 e
          · rw [if_neg e, q2 b (by omega), h1 b b0 b8, if_neg e]
        · obtain ⟨b0, cρ, k11, q1, q2⟩ := hp
          have g00 : ρ 0 0 = σ 0 0 := cρ.2 0 (by decide)
          have hold : ρ 12 b = (mk (fun a => Ahd (WM σ) a b) a.toNat : Int) := by rw [q2 b (Int.le_refl b), h1 b b0 (by omega), if_pos hb]
          have hgb := hg b b0 hb
          have hge : ρ 11 b = gp (WM σ) a b := by rw [k11]; exact gp_u hgb
          have fin : ∀ y : Nat, y = icn (Ahd (WM σ) a b) (2 ^ a.toNat) 0 → K (d + 6) mM_findAhead 45 [.inr 0, .inl a, .inl b] [.inl (y : Int), .inl (ρ 12 b), .inl b, .inr 12] ρ Q := by
            intro y hy
            refine bM_findAhead_45 (d := d + 5) hK (by omega) (ih2 _ ⟨by omega, hfr_tr cρ (hfr_12 _ _ _), by rw [us_o _ _ _ (by decide)]; exact k11, fun b' z1 z2 => ?_, fun b' z1 => ?_⟩)
            · rw [us_s]
              split
              · rename_i e
                rw [hold, hy, e]
                exact mk_or (fun a => Ahd (WM σ) a b) a0 (by omega)
              · exact q1 b' z1 (by omega)
            · rw [us_n _ _ _ (by omega)]
              exact q2 b' (by omega)
          have rg : am_rng (ρ 11 b) := by
            rw [k11]
            obtain ⟨⟨w, hw, e⟩, -⟩ := hgb
            have z1 := Way_r hm.1 hw a0 ha
            have z2 := Way_r hm.1 hw b0 hb
            exact ⟨by omega, by omega⟩
          refine bM_findAhead_23 (d := d + 5) hK ⟨by omega, by omega⟩ (by rw [g00]; exact ⟨by omega, by omega⟩) (fun g => absurd g (by omega)) (fun _ => ?_)
          refine bM_findAhead_27 (d := d + 5) hK (by omega) ⟨by omega, by omega⟩ ⟨by omega, by omega⟩ (fun g => bM_findAhead_44 (d := d + 5) hK (fin 0 (by rw [icn_f (fun z => z.1 g.symm)]))) (fun g => ?_)
          refine bM_findAhead_35 (d := d + 5) hK (by omega) rg (fun g2 => bM_findAhead_44 (d := d + 5) hK (fin 0 (by rw [hge] at g2; rw [icn_f (fun z => by have := z.2; omega)]))) (fun g2 => bM_findAhead_40 (d := d + 5) hK ?_)
          rw [shl_i a0 (by omega)]
          exact fin _ (by rw [hge] at g2; rw [icn_t ⟨Ne.symm g, g2⟩])
      exact inner 0 σ2 n0 ⟨Int.le_refl 0, hfr_tr c (hfr_g c2), rfl, fun b' q1 q2 => absurd q2 (by omega), fun b' _ => by rw [k12]⟩
  have init : ∀ (b : Int) (τ : am_S), b ≤ 8 → (0 ≤ b ∧ hfr σ τ ∧ ∀ b', 0 ≤ b' → b' < b → τ 12 b' = 0) → K (d + 6) mM_findAhead 2 [.inr 0, .inl b] [] τ Q := by
    refine am_up (P := fun b τ => 0 ≤ b ∧ hfr σ τ ∧ ∀ b', 0 ≤ b' → b' < b → τ 12 b' = 0) (C := fun b τ => K (d + 6) mM_findAhead 2 [.inr 0, .inl b] [] τ Q) (fun τ hp => ?_) (fun b τ hb hp ih => ?_)
    · obtain ⟨-, c, h1⟩ := hp
      refine bM_findAhead_2 (d := d + 5) hK ⟨by decide, by decide⟩ (fun _ => bM_findAhead_12 (d := d + 5) hK (outer 0 τ n0 ⟨Int.le_refl 0, c, fun b b0 b8 => ?_⟩)) (fun g => absurd g (by decide))
      rw [h1 b b0 b8]
      split <;> rfl
    · obtain ⟨b0, c, h1⟩ := hp
      refine bM_findAhead_2 (d := d + 5) hK ⟨by omega, by omega⟩ (fun g => absurd g (by omega)) (fun _ => bM_findAhead_5 (d := d + 5) hK (by omega) (ih _ ⟨by omega, hfr_tr c (hfr_12 _ _ _), fun b' q1 q2 => ?_⟩))
      rw [us_s]
      split
      · rfl
      · exact h1 b' q1 (by omega)
  exact bM_findAhead_0 (d := d + 5) hK (init 0 σ (by decide) ⟨Int.le_refl 0, hfr_rf σ, fun b' q1 q2 => absurd q2 (by omega)⟩)
theorem shl_0 : ∀ k : Nat, k < 31 → am_shl 0 (k : Int) = 0 := by decide +kernel
noncomputable def aAhead (n : Int) (W : WS) (a what : Int) : Int := if ¬ (0 ≤ a ∧ a < n) then -1 else if ¬ (0 ≤ what ∧ what ≤ 1) then -2 else ic (Exi W) (if what = 0 then (ahm n W a : Int) else (bhm n W a : Int)) (-3)
theorem sM_ahead {K : am_KT} (hK : am_C K) {d : Nat} {σ : am_S} {Q : am_Q} {a what : Int} (ra : am_rng a) (rw' : am_rng what) (hm : Mok σ) (h : ∀ σ', mfr σ σ' → Q (some (aAhead (σ 0 0) (WM σ) a what)) σ') : K (d + 7) mM_ahead 0 [.inr 0, .inl a, .inl what] [] σ Q := by
  have n0 : 0 ≤ σ 0 0 := hm.1.1.1
  have n8 : σ 0 0 ≤ 8 := hm.1.1.2
  unfold aAhead at h
  refine bM_ahead_0 (d := d + 6) hK (sM_isLetter hK ra n0 n8 (fun r hr => ?_))
  refine bM_ahead_3 (d := d + 6) hK (r01_g hr) (fun g => ?_) (fun g => bM_ahead_4 (d := d + 6) hK ?_)
  · have ga := r01_n hr g
    rw [if_neg (fun q => q ga)] at h
    refine bM_ahead_6 (d := d + 6) hK (sM_within hK rw' ⟨by decide, by decide⟩ ⟨by decide, by decide⟩ (fun r hr => ?_))
    refine bM_ahead_10 (d := d + 6) hK (r01_g hr) (fun g => ?_) (fun g => bM_ahead_11 (d := d + 6) hK ?_)
    · have gw := r01_n hr g
      rw [if_neg (fun q => q gw)] at h
      refine bM_ahead_13 (d := d + 6) hK (sM_closeNow (d := d + 2) hK hm (fun r σ1 c hr => ?_))
      have h2 := Nw_r hr
      refine bM_ahead_15 (d := d + 6) hK (r01_g h2) (fun g => ?_) (fun g => bM_ahead_16 (d := d + 6) hK ?_)
      · have h3 := r01_n h2 g
        rw [ic_t h3] at h
        have cm := mfr_c c
        have e00 : σ1 0 0 = σ 0 0 := c.2 0 (by decide)
        refine bM_ahead_18 (d := d + 6) hK (sM_findAhead hK (Mok_m cm hm) (by rw [WM_m cm]; exact h3) (fun σ2 c2 hA => ?_))
        unfold AhI at hA
        rw [WM_m cm, e00] at hA
        have cm2 : mfr σ σ2 := mfr_tr cm (mfr_h c2)
        have f00 : σ2 0 0 = σ 0 0 := cm2.2 0 (by decide)
        refine bM_ahead_20 (d := d + 6) hK ?_
        have loop : ∀ (b : Int) (v : Int), b ≤ σ 0 0 → (0 ≤ b ∧ v = (mk (fun b => Ahd (WM σ) a b) b.toNat : Int)) → K (d + 7) mM_ahead 24 [.inr 0, .inl a, .inl what, .inl v, .inl b] [] σ2 Q := by
          refine am_up (P := fun b v => 0 ≤ b ∧ v = (mk (fun b => Ahd (WM σ) a b) b.toNat : Int)) (C := fun b v => K (d + 7) mM_ahead 24 [.inr 0, .inl a, .inl what, .inl v, .inl b] [] σ2 Q) (fun v hp => ?_) (fun b v hb hp ih => ?_)
          · obtain ⟨-, rfl⟩ := hp
            refine bM_ahead_24 (d := d + 6) hK ⟨by omega, by omega⟩ (by rw [f00]; exact ⟨by omega, by omega⟩) (fun _ => ?_) (fun g => absurd g (by omega))
            refine bM_ahead_43 (d := d + 6) hK rw' (fun g2 => ?_) (fun g2 => ?_)
            · rw [if_neg g2] at h
              exact bM_ahead_50 (d := d + 6) hK (bM_ahead_51 (d := d + 6) hK (h σ2 cm2))
            · rw [if_pos g2] at h
              refine bM_ahead_45 (d := d + 6) hK (by omega) (bM_ahead_51 (d := d + 6) hK ?_)
              rw [hA a ga.1 (by omega), if_pos ga.2]
              exact h σ2 cm2
          · obtain ⟨b0, rfl⟩ := hp
            refine bM_ahead_24 (d := d + 6) hK ⟨by omega, by omega⟩ (by rw [f00]; exact ⟨by omega, by omega⟩) (fun g => absurd g (by omega)) (fun _ => ?_)
            refine bM_ahead_28 (d := d + 6) hK (by omega) (ih _ ⟨by omega, ?_⟩)
            rw [hA b b0 (by omega), if_pos hb]
            have ea : a = ((a.toNat : Nat) : Int) := by omega
            have e1 : am_and (am_shr (ahm (σ 0 0) (WM σ) b : Int) a) 1 = ic (Ahd (WM σ) a b) 1 0 := by
              rw [ea, bit_shr_nat (by omega)]
              unfold ahm
              by_cases q : Ahd (WM σ) a b
              · rw [if_pos ((mk_bit _ _ _).mpr ⟨by omega, by rw [← ea]; exact q⟩), ← ea, ic_t q]
              · rw [if_neg (fun z => q (by have := ((mk_bit _ _ _).mp z).2; rw [← ea] at this; exact this)), ← ea, ic_f q]
            rw [e1]
            have e2 : am_shl (ic (Ahd (WM σ) a b) 1 0) b = (icn (Ahd (WM σ) a b) (2 ^ b.toNat) 0 : Int) := by
              by_cases q : Ahd (WM σ) a b
              · rw [ic_t q, icn_t q]
                exact shl_i b0 (by omega)
              · rw [ic_f q, icn_f q]
                have := shl_0 b.toNat (by omega)
                rw [show ((b.toNat : Nat) : Int) = b by omega] at this
                exact this
            rw [e2]
            exact mk_or (fun b => Ahd (WM σ) a b) b0 (by omega)
        exact loop 0 0 n0 ⟨Int.le_refl 0, rfl⟩
      · rw [ic_f (r01_0 h2 g)] at h
        exact h σ1 (mfr_c c)
    · rw [if_pos (r01_0 hr g)] at h
      exact h σ (mfr_rf σ)
  · rw [if_pos (r01_0 hr g)] at h
    exact h σ (mfr_rf σ)
