/-! the reference: gaps -/
def gfr (σ σ' : am_S) : Prop := (∀ c, c ≠ 0 → c ≠ 9 → c ≠ 10 → c ≠ 11 → σ' c = σ c) ∧ ∀ j, j ≠ 12 → σ' 0 j = σ 0 j
theorem gfr_tr {σ σ1 σ2 : am_S} (h1 : gfr σ σ1) (h2 : gfr σ1 σ2) : gfr σ σ2 := ⟨fun c a b e f => (h2.1 c a b e f).trans (h1.1 c a b e f), fun j hj => (h2.2 j hj).trans (h1.2 j hj)⟩
theorem gfr_c {σ σ' : am_S} (h : cfr σ σ') : gfr σ σ' := ⟨fun c a b e _ => h.1 c a b e, h.2⟩
theorem gfr_11 (σ : am_S) (i v : Int) : gfr σ (am_us σ 11 i v) := ⟨fun c _ _ _ h => us_o σ i v h, fun j _ => by rw [us_o σ i v (by decide : (0 : Nat) ≠ 11)]⟩
theorem mfr_g {σ σ' : am_S} (h : gfr σ σ') : mfr σ σ' := ⟨fun c a b => h.1 c a (by omega) (by omega) (by omega), h.2⟩
/-- the least of the days from f below y -/
def GapA (n : Int) (W : WS) (a f y b g : Int) : Prop := (g = 100000 ∧ ∀ y', f ≤ y' → y' < y → ¬ Can W a y') ∨ ((∃ y', f ≤ y' ∧ y' < y ∧ Can W a y' ∧ g = Lst n W a y' b - y') ∧ ∀ y', f ≤ y' → y' < y → Can W a y' → g ≤ Lst n W a y' b - y')
/-- of a day that a can have: the least and greatest are known -/
def Kn (n : Int) (W : WS) (a : Int) : Prop := ∀ y, Can W a y → LGW n W a y (Lst n W a y) (Gst n W a y)
theorem GapA_end {n : Int} {W : WS} {a f z b g : Int} (a0 : 0 ≤ a) (b0 : 0 ≤ b) (bn : b < n) (hf : ∀ w, W w → f ≤ w a ∧ w a ≤ z) (hE : Exi W) (hk : ∀ y', f ≤ y' → y' < z + 1 → Can W a y' → LGW n W a y' (Lst n W a y') (Gst n W a y')) (h : GapA n W a f (z + 1) b g) : IsGap W a b g := by
  obtain ⟨w0, h0⟩ := hE
  have r0 := hf w0 h0
  rcases h with ⟨-, hno⟩ | ⟨⟨y', f1, f2, hc, hg⟩, hall⟩
  · exact absurd ⟨w0, h0, rfl⟩ (hno (w0 a) r0.1 (by omega))
  · have hl := hk y' f1 f2 hc
    have hw := (WP_a a0).mp hl.1
    refine ⟨⟨_, hw.1, by rw [hw.2]; exact hg.symm⟩, fun w hw => ?_⟩
    have rw' := hf w hw
    have hcw : Can W a (w a) := ⟨w, hw, rfl⟩
    have h1 := hall (w a) rw'.1 (by omega) hcw
    have h2 := (hk (w a) rw'.1 (by omega) hcw).2.2 w ((WP_a a0).mpr ⟨hw, rfl⟩) b b0 bn
    omega
theorem sM_findGaps {K : am_KT} (hK : am_C K) {d : Nat} {σ : am_S} {Q : am_Q} {a : Int} (hm : Mok σ) (ha : 0 ≤ a ∧ a < σ 0 0) (hE : Exi (WM σ))
    (h : ∀ σ', gfr σ σ' → (∀ b, 0 ≤ b → b < σ 0 0 → IsGap (WM σ) a b (σ' 11 b)) → Q none σ') : K (d + 5) mM_findGaps 0 [.inr 0, .inl a] [] σ Q := by
  have n0 : 0 ≤ σ 0 0 := hm.1.1.1
  have n8 : σ 0 0 ≤ 8 := hm.1.1.2
  refine bM_findGaps_0 (d := d + 4) hK (sM_setInForce hK hm ?_)
  refine bM_findGaps_2 (d := d + 4) hK (sM_closeNow hK hm (fun r σ1 c1 hr => ?_))
  have hL : LGW (σ 0 0) (WM σ) (-9) 0 (fun a => -(σ1 9 (9 * a + 8))) (fun a => σ1 9 (72 + a)) := by
    rcases hr with q | q
    · exact q.2.2
    · exact absurd hE q.2
  refine bM_findGaps_5 (d := d + 4) hK (sM_earliest hK (by omega) ?_)
  refine bM_findGaps_9 (d := d + 4) hK (sM_latest hK (by omega) ?_)
  refine bM_findGaps_13 (d := d + 4) hK ?_
  have hfz : ∀ w, WM σ w → -(σ1 9 (9 * a + 8)) ≤ w a ∧ w a ≤ σ1 9 (72 + a) := fun w hw => hL.2.2 w (WP_n.mpr hw) a ha.1 ha.2
  have hf : 0 ≤ -(σ1 9 (9 * a + 8)) ∧ -(σ1 9 (9 * a + 8)) ≤ 199 := Way_r hm.1 (WP_n.mp hL.1) ha.1 ha.2
  have hz : 0 ≤ σ1 9 (72 + a) ∧ σ1 9 (72 + a) ≤ 199 := Way_r hm.1 (WP_n.mp hL.2.1) ha.1 ha.2
  generalize -(σ1 9 (9 * a + 8)) = f at hfz hf ⊢
  generalize σ1 9 (72 + a) = z at hfz hz ⊢
  have wr : ∀ y', (Can (WM σ) a y' → LGW (σ 0 0) (WM σ) a y' (Lst (σ 0 0) (WM σ) a y') (Gst (σ 0 0) (WM σ) a y')) → Can (WM σ) a y' → ∀ b, 0 ≤ b → b < σ 0 0 → 0 ≤ Lst (σ 0 0) (WM σ) a y' b ∧ Lst (σ 0 0) (WM σ) a y' b ≤ 199 := fun y' hk hc b b0 bn => Way_r hm.1 (hk hc).1.1 b0 bn
  -- the days
  have loop : ∀ (y : Int) (τ : am_S), y ≤ z + 1 → (f ≤ y ∧ gfr σ τ ∧ (∀ y', f ≤ y' → y' < y → Can (WM σ) a y' → LGW (σ 0 0) (WM σ) a y' (Lst (σ 0 0) (WM σ) a y') (Gst (σ 0 0) (WM σ) a y')) ∧ ∀ b, 0 ≤ b → b < σ 0 0 → GapA (σ 0 0) (WM σ) a f y b (τ 11 b)) → K (d + 5) mM_findGaps 28 [.inr 0, .inl a, .inl (fmk σ : Int), .inl f, .inl z, .inl y] [] τ Q := by
    refine am_up (P := fun y τ => f ≤ y ∧ gfr σ τ ∧ (∀ y', f ≤ y' → y' < y → Can (WM σ) a y' → LGW (σ 0 0) (WM σ) a y' (Lst (σ 0 0) (WM σ) a y') (Gst (σ 0 0) (WM σ) a y')) ∧ ∀ b, 0 ≤ b → b < σ 0 0 → GapA (σ 0 0) (WM σ) a f y b (τ 11 b)) (C := fun y τ => K (d + 5) mM_findGaps 28 [.inr 0, .inl a, .inl (fmk σ : Int), .inl f, .inl z, .inl y] [] τ Q) (fun τ hp => ?_) (fun y τ hy hp ih => ?_)
    · obtain ⟨-, c, hk, hg⟩ := hp
      refine bM_findGaps_28 (d := d + 4) hK ⟨by omega, by omega⟩ ⟨by omega, by omega⟩ (fun _ => bM_findGaps_69 (d := d + 4) hK (h τ c (fun b b0 bn => GapA_end ha.1 b0 bn hfz hE hk (hg b b0 bn)))) (fun g => absurd g (by omega))
    · obtain ⟨y0, c, hk, hg⟩ := hp
      have e00 : τ 0 0 = σ 0 0 := c.2 0 (by decide)
      have cm := mfr_g c
      have hmτ := Mok_m cm hm
      refine bM_findGaps_28 (d := d + 4) hK ⟨by omega, by omega⟩ ⟨by omega, by omega⟩ (fun g => absurd g (by omega)) (fun _ => ?_)
      refine bM_findGaps_31 (d := d + 4) hK (sM_closeN (d := d + 1) hK hmτ.1 (Or.inr ⟨ha.1, by omega, by omega, by omega⟩) (fun r2 σ2 c2 hr2 => ?_))
      rw [pbM_m cm, e00] at hr2
      have c3 : gfr σ σ2 := gfr_tr c (gfr_c c2)
      have f00 : σ2 0 0 = σ 0 0 := c3.2 0 (by decide)
      have k11 : σ2 11 = τ 11 := c2.1 11 (by decide) (by decide) (by decide)
      rcases hr2 with ⟨rfl, hLy⟩ | ⟨rfl, hno⟩
      · have hLe := LGW_e hLy
        have hcan : Can (WM σ) a y := (Can_WP ha.1).mpr ⟨_, hLy.1⟩
        have hk' : ∀ y', f ≤ y' → y' < y + 1 → Can (WM σ) a y' → LGW (σ 0 0) (WM σ) a y' (Lst (σ 0 0) (WM σ) a y') (Gst (σ 0 0) (WM σ) a y') := fun y' q1 q2 q3 => by
          by_cases e : y' = y
          · rw [e]
            exact hLe
          · exact hk y' q1 (by omega) q3
        refine bM_findGaps_36 (d := d + 4) hK ⟨by decide, by decide⟩ (fun g => absurd g (by decide)) (fun _ => bM_findGaps_37 (d := d + 4) hK ?_)
        have inner : ∀ (b : Int) (ρ : am_S), b ≤ σ 0 0 → (0 ≤ b ∧ gfr σ ρ ∧ ρ 9 = σ2 9 ∧ (∀ b', 0 ≤ b' → b' < b → GapA (σ 0 0) (WM σ) a f (y + 1) b' (ρ 11 b')) ∧ (∀ b', b ≤ b' → ρ 11 b' = τ 11 b')) → K (d + 5) mM_findGaps 39 [.inr 0, .inl a, .inl (fmk σ : Int), .inl f, .inl z, .inl y, .inl b] [] ρ Q := by
          refine am_up (P := fun b ρ => 0 ≤ b ∧ gfr σ ρ ∧ ρ 9 = σ2 9 ∧ (∀ b', 0 ≤ b' → b' < b → GapA (σ 0 0) (WM σ) a f (y + 1) b' (ρ 11 b')) ∧ (∀ b', b ≤ b' → ρ 11 b' = τ 11 b')) (C := fun b ρ => K (d + 5) mM_findGaps 39 [.inr 0, .inl a, .inl (fmk σ : Int), .inl f, .inl z, .inl y, .inl b] [] ρ Q) (fun ρ hp => ?_) (fun b ρ hb hp ih2 => ?_)
          · obtain ⟨-, cρ, -, hd1, -⟩ := hp
            have g00 : ρ 0 0 = σ 0 0 := cρ.2 0 (by decide)
            refine bM_findGaps_39 (d := d + 4) hK ⟨by omega, by omega⟩ (by rw [g00]; exact ⟨by omega, by omega⟩) (fun _ => bM_findGaps_67 (d := d + 4) hK (ih ρ ⟨by omega, cρ, hk', hd1⟩)) (fun g => absurd g (by omega))
          · obtain ⟨b0, cρ, k9, hd1, hd2⟩ := hp
            have g00 : ρ 0 0 = σ 0 0 := cρ.2 0 (by decide)
            refine bM_findGaps_39 (d := d + 4) hK ⟨by omega, by omega⟩ (by rw [g00]; exact ⟨by omega, by omega⟩) (fun g => absurd g (by omega)) (fun _ => ?_)
            refine bM_findGaps_43 (d := d + 4) hK (sM_earliest hK (by omega) ?_)
            have hx : -(ρ 9 (9 * b + 8)) = Lst (σ 0 0) (WM σ) a y b := by
              rw [k9]
              exact (LGW_u hLy b0 hb).1
            rw [hx]
            have hxr := wr y (fun _ => hLe) hcan b b0 hb
            have hgb := hg b b0 hb
            have hρb : ρ 11 b = τ 11 b := hd2 b (Int.le_refl b)
            have rgb : am_rng (ρ 11 b) := by
              rw [hρb]
              rcases hgb with ⟨q, -⟩ | ⟨⟨y', q1, q2, q3, q4⟩, -⟩
              · rw [q]
                exact ⟨by decide, by decide⟩
              · have := wr y' (hk y' q1 q2) q3 b b0 hb
                exact ⟨by omega, by omega⟩
            have fin : ∀ v, GapA (σ 0 0) (WM σ) a f (y + 1) b v → ∀ v7, K (d + 5) mM_findGaps 64 [.inr 0, .inl a, .inl (fmk σ : Int), .inl f, .inl z, .inl y, .inl b, .inl v7] [.inl v, .inl b, .inr 11] ρ Q := by
              intro v hv v7
              refine bM_findGaps_64 (d := d + 4) hK (by omega) (ih2 _ ⟨by omega, gfr_tr cρ (gfr_11 _ _ _), by rw [us_o _ _ _ (by decide)]; exact k9, fun b' q1 q2 => ?_, fun b' q1 => ?_⟩)
              · rw [us_s]
                split
                · rename_i e
                  rw [e]
                  exact hv
                · exact hd1 b' q1 (by omega)
              · rw [us_n _ _ _ (by omega)]
                exact hd2 b' (by omega)
            refine bM_findGaps_46 (d := d + 4) hK (by omega) ⟨by omega, by omega⟩ rgb (fun g => ?_) (fun g => ?_)
            · refine bM_findGaps_60 (d := d + 4) hK (by omega) (fin _ ?_ _)
              rw [hρb] at g ⊢
              rcases hgb with ⟨q, -⟩ | ⟨⟨y', q1, q2, q3, q4⟩, q5⟩
              · omega
              · refine Or.inr ⟨⟨y', q1, by omega, q3, q4⟩, fun y2 z1 z2 z3 => ?_⟩
                by_cases e : y2 = y
                · rw [e]
                  exact g
                · exact q5 y2 z1 (by omega) z3
            · refine bM_findGaps_58 (d := d + 4) hK (fin _ ?_ _)
              rw [hρb] at g
              refine Or.inr ⟨⟨y, y0, by omega, hcan, rfl⟩, fun y2 z1 z2 z3 => ?_⟩
              by_cases e : y2 = y
              · rw [e]
                exact Int.le_refl _
              · rcases hgb with ⟨q, q6⟩ | ⟨-, q5⟩
                · exact absurd z3 (q6 y2 z1 (by omega))
                · have := q5 y2 z1 (by omega) z3
                  omega
        exact inner 0 σ2 n0 ⟨Int.le_refl 0, c3, rfl, fun b' q1 q2 => absurd q2 (by omega), fun b' _ => by rw [k11]⟩
      · have hnc : ¬ Can (WM σ) a y := fun q => by
          obtain ⟨w, hw⟩ := (Can_WP ha.1).mp q
          exact hno w hw
        refine bM_findGaps_36 (d := d + 4) hK ⟨by decide, by decide⟩ (fun _ => bM_findGaps_67 (d := d + 4) hK (ih σ2 ⟨by omega, c3, fun y' q1 q2 q3 => ?_, fun b b0 bn => ?_⟩)) (fun g => absurd rfl g)
        · by_cases e : y' = y
          · rw [e] at q3
            exact absurd q3 hnc
          · exact hk y' q1 (by omega) q3
        · rw [k11]
          rcases hg b b0 bn with ⟨q, q6⟩ | ⟨⟨y', q1, q2, q3, q4⟩, q5⟩
          · refine Or.inl ⟨q, fun y' z1 z2 z3 => ?_⟩
            by_cases e : y' = y
            · rw [e] at z3
              exact hnc z3
            · exact q6 y' z1 (by omega) z3
          · refine Or.inr ⟨⟨y', q1, by omega, q3, q4⟩, fun y2 z1 z2 z3 => ?_⟩
            by_cases e : y2 = y
            · rw [e] at z3
              exact absurd z3 hnc
            · exact q5 y2 z1 (by omega) z3
  -- the start
  have init : ∀ (b : Int) (τ : am_S), b ≤ 8 → (0 ≤ b ∧ gfr σ τ ∧ ∀ b', 0 ≤ b' → b' < b → τ 11 b' = 100000) → K (d + 5) mM_findGaps 16 [.inr 0, .inl a, .inl (fmk σ : Int), .inl f, .inl z, .inl b] [] τ Q := by
    refine am_up (P := fun b τ => 0 ≤ b ∧ gfr σ τ ∧ ∀ b', 0 ≤ b' → b' < b → τ 11 b' = 100000) (C := fun b τ => K (d + 5) mM_findGaps 16 [.inr 0, .inl a, .inl (fmk σ : Int), .inl f, .inl z, .inl b] [] τ Q) (fun τ hp => ?_) (fun b τ hb hp ih => ?_)
    · obtain ⟨-, c, h1⟩ := hp
      refine bM_findGaps_16 (d := d + 4) hK ⟨by decide, by decide⟩ (fun _ => bM_findGaps_26 (d := d + 4) hK (loop f τ ?_ ⟨Int.le_refl f, c, fun y' q1 q2 => absurd q2 (by omega), fun b b0 bn => Or.inl ⟨h1 b b0 (by omega), fun y' q1 q2 => absurd q2 (by omega)⟩⟩)) (fun g => absurd g (by decide))
      obtain ⟨w, hw⟩ := hE
      have := hfz w hw
      omega
    · obtain ⟨b0, c, h1⟩ := hp
      refine bM_findGaps_16 (d := d + 4) hK ⟨by omega, by omega⟩ (fun g => absurd g (by omega)) (fun _ => bM_findGaps_19 (d := d + 4) hK (by omega) (ih _ ⟨by omega, gfr_tr c (gfr_11 _ _ _), fun b' q1 q2 => ?_⟩))
      rw [us_s]
      split
      · rfl
      · exact h1 b' q1 (by omega)
  exact init 0 σ1 (by decide) ⟨Int.le_refl 0, gfr_c c1, fun b' q1 q2 => absurd q2 (by omega)⟩
noncomputable def aGap (n : Int) (W : WS) (a b : Int) : Int := if ¬ (0 ≤ a ∧ a < n) ∨ ¬ (0 ≤ b ∧ b < n) ∨ a = b then -1 else ic (Exi W) (gp W a b + 1000) (-3)
theorem sM_gap {K : am_KT} (hK : am_C K) {d : Nat} {σ : am_S} {Q : am_Q} {a b : Int} (ra : am_rng a) (rb : am_rng b) (hm : Mok σ) (h : ∀ σ', mfr σ σ' → Q (some (aGap (σ 0 0) (WM σ) a b)) σ') : K (d + 6) mM_gap 0 [.inr 0, .inl a, .inl b] [] σ Q := by
  have n0 : 0 ≤ σ 0 0 := hm.1.1.1
  have n8 : σ 0 0 ≤ 8 := hm.1.1.2
  unfold aGap at h
  have no : (¬ (0 ≤ a ∧ a < σ 0 0) ∨ ¬ (0 ≤ b ∧ b < σ 0 0) ∨ a = b) → K (d + 6) mM_gap 11 [.inr 0, .inl a, .inl b] [] σ Q := fun q => by
    rw [if_pos q] at h
    exact bM_gap_11 (d := d + 5) hK (h σ (mfr_rf σ))
  refine bM_gap_0 (d := d + 5) hK (sM_isLetter hK ra n0 n8 (fun r hr => ?_))
  refine bM_gap_3 (d := d + 5) hK (r01_g hr) (fun g => no (Or.inl (r01_0 hr g))) (fun g => ?_)
  have ga := r01_n hr g
  refine bM_gap_4 (d := d + 5) hK (sM_isLetter hK rb n0 n8 (fun r hr => ?_))
  refine bM_gap_7 (d := d + 5) hK (r01_g hr) (fun g => no (Or.inr (Or.inl (r01_0 hr g)))) (fun g => ?_)
  have gb := r01_n hr g
  refine bM_gap_8 (d := d + 5) hK ra rb (fun g => ?_) (fun g => no (Or.inr (Or.inr g)))
  rw [if_neg (by omega)] at h
  refine bM_gap_13 (d := d + 5) hK (sM_closeNow (d := d + 1) hK hm (fun r σ1 c hr => ?_))
  have h2 := Nw_r hr
  refine bM_gap_15 (d := d + 5) hK (r01_g h2) (fun g => ?_) (fun g => bM_gap_16 (d := d + 5) hK ?_)
  · have h3 := r01_n h2 g
    rw [ic_t h3] at h
    have cm := mfr_c c
    have e00 : σ1 0 0 = σ 0 0 := c.2 0 (by decide)
    refine bM_gap_18 (d := d + 5) hK (sM_findGaps hK (Mok_m cm hm) (by omega) (by rw [WM_m cm]; exact h3) (fun σ2 c2 hg => ?_))
    refine bM_gap_21 (d := d + 5) hK (by omega) ?_
    rw [WM_m cm] at hg
    rw [gp_u (hg b gb.1 (by omega))]
    exact h σ2 (mfr_tr cm (mfr_g c2))
  · rw [ic_f (r01_0 h2 g)] at h
    exact h σ1 (mfr_c c)
