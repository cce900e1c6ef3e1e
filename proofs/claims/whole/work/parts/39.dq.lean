/-! the class: LetterDays: what is asked -/
def CI (σ : am_S) : Prop := Cok σ ∧ CW σ ∧ YV σ ∧ TV σ
def DQ (σ σ' : am_S) : Prop := (∀ c, (c < 26 ∨ 52 < c) → σ' c = σ c) ∧ YV σ' ∧ TV σ'
theorem YV_eq {σ σ' : am_S} (h : ∀ c, 17 ≤ c → c ≤ 40 → σ' c = σ c) (hy : YV σ) : YV σ' := by
  have e26 := h 26 (by decide) (by decide)
  rcases hy with q | ⟨q1, q2, q3⟩ | q
  · exact Or.inl (by rw [e26]; exact q)
  · exact Or.inr (Or.inl ⟨by rw [e26]; exact q1, by rw [e26]; exact q2, by rw [WC_eq (fun c h1 h2 => h c h1 (by omega))]; exact q3⟩)
  · exact Or.inr (Or.inr (YE_eq h q))
theorem TV_eq {σ σ' : am_S} (h : ∀ c, (17 ≤ c ∧ c ≤ 25) ∨ c = 41 → σ' c = σ c) (ht : TV σ) : TV σ' := by
  unfold TV knC pbC at ht ⊢
  rw [h 17 (by decide), h 18 (by decide), h 19 (by decide), h 20 (by decide), h 21 (by decide), h 22 (by decide), h 23 (by decide), h 24 (by decide), h 25 (by decide), h 41 (by decide)]
  exact ht
theorem DQ_rf {σ : am_S} (hi : CI σ) : DQ σ σ := ⟨fun _ _ => rfl, hi.2.2.1, hi.2.2.2⟩
theorem DQ_o {σ σ' : am_S} (hi : CI σ) (h : ofr2 σ σ') (hy : YV σ') : DQ σ σ' := ⟨fun c hc => h c (by omega), hy, TV_eq (fun c hc => h c (by omega)) hi.2.2.2⟩
theorem DQ_y {σ σ' : am_S} (hi : CI σ) (h : yfr σ σ') (hy : YV σ') : DQ σ σ' := DQ_o hi (ofr2_y h) hy
theorem DQ_e {σ σ' : am_S} (hi : CI σ) (h : yfr σ σ') (hy : YE σ') : DQ σ σ' := DQ_y hi h (Or.inr (Or.inr hy))
theorem sD_agree {K : am_KT} (hK : am_C K) {d : Nat} {σ : am_S} {Q : am_Q} (hi : CI σ) (h : ∀ r σ', DQ σ σ' → r01 r (Exi (WC σ)) → Q (some r) σ') : K (d + 4) mD_agree 0 [.inr 16] [] σ Q := by
  refine bD_agree_0 (d := d + 3) hK (sY_exist hK hi.1 hi.2.2.1 (fun r σ1 c1 hr => ?_))
  have h2 := YR_r hr
  have q := DQ_y hi c1 (YR_v hr)
  exact bD_agree_3 (d := d + 3) hK (r01_g h2) (fun g => bD_agree_6 (d := d + 3) hK (bD_agree_7 (d := d + 3) hK (h 0 σ1 q (Or.inr ⟨rfl, r01_0 h2 g⟩)))) (fun g => bD_agree_4 (d := d + 3) hK (bD_agree_7 (d := d + 3) hK (h 1 σ1 q (Or.inl ⟨rfl, r01_n h2 g⟩))))
theorem sD_day {K : am_KT} (hK : am_C K) {d : Nat} {σ : am_S} {Q : am_Q} {a what : Int} (ra : am_rng a) (rw' : am_rng what) (hi : CI σ) (h : ∀ σ', DQ σ σ' → Q (some (aDay (σ 17 0) (WC σ) a what)) σ') : K (d + 4) mD_day 0 [.inr 16, .inl a, .inl what] [] σ Q := by
  have n0 : 0 ≤ σ 17 0 := hi.1.1.1.1
  have n8 : σ 17 0 ≤ 8 := hi.1.1.1.2
  unfold aDay at h
  refine bD_day_0 (d := d + 3) hK (sL_has hK ra n0 n8 (fun r hr => ?_))
  refine bD_day_4 (d := d + 3) hK (r01_g hr) (fun g => ?_) (fun g => bD_day_5 (d := d + 3) hK ?_)
  · have ga := r01_n hr g
    rw [if_neg (fun q => q ga)] at h
    have go : (what = 0 ∨ what = 1) → K (d + 4) mD_day 14 [.inr 16, .inl a, .inl what] [] σ Q := fun hw => by
      rw [if_neg (by omega)] at h
      refine bD_day_14 (d := d + 3) hK (sY_exist hK hi.1 hi.2.2.1 (fun r σ1 c1 hr => ?_))
      have h2 := YR_r hr
      have q := DQ_y hi c1 (YR_v hr)
      refine bD_day_17 (d := d + 3) hK (r01_g h2) (fun g2 => ?_) (fun g2 => bD_day_18 (d := d + 3) hK ?_)
      · rw [ic_t (r01_n h2 g2)] at h
        have ye := YR_e hr g2
        have hL := ye.2.2.2.2.1
        rw [WC_y c1, c1 17 (by decide)] at hL
        have h5 := LGW_u hL ga.1 ga.2
        refine bD_day_20 (d := d + 3) hK rw' (fun g3 => ?_) (fun g3 => ?_)
        · rw [if_neg g3, ← h5.2] at h
          exact bD_day_28 (d := d + 3) hK (by omega) (bD_day_33 (d := d + 3) hK (h σ1 q))
        · rw [if_pos g3, ← h5.1] at h
          exact bD_day_22 (d := d + 3) hK (by omega) (bD_day_33 (d := d + 3) hK (h σ1 q))
      · rw [ic_f (r01_0 h2 g2)] at h
        exact h σ1 q
    refine bD_day_7 (d := d + 3) hK rw' (fun g2 => go (Or.inl g2)) (fun g2 => ?_)
    refine bD_day_9 (d := d + 3) hK rw' (fun g3 => go (Or.inr g3)) (fun g3 => bD_day_12 (d := d + 3) hK ?_)
    rw [if_pos (by omega)] at h
    exact h σ (DQ_rf hi)
  · rw [if_pos (r01_0 hr g)] at h
    exact h σ (DQ_rf hi)
theorem sD_can {K : am_KT} (hK : am_C K) {d : Nat} {σ : am_S} {Q : am_Q} {a y : Int} (ra : am_rng a) (ry : am_rng y) (hi : CI σ) (h : ∀ σ', DQ σ σ' → Q (some (aCan (σ 17 0) (WC σ) a y)) σ') : K (d + 5) mD_can 0 [.inr 16, .inl a, .inl y] [] σ Q := by
  have n0 : 0 ≤ σ 17 0 := hi.1.1.1.1
  have n8 : σ 17 0 ≤ 8 := hi.1.1.1.2
  unfold aCan at h
  refine bD_can_0 (d := d + 4) hK (sL_has hK ra n0 n8 (fun r hr => ?_))
  refine bD_can_4 (d := d + 4) hK (r01_g hr) (fun g => ?_) (fun g => bD_can_5 (d := d + 4) hK ?_)
  · have ga := r01_n hr g
    rw [if_neg (fun q => q ga)] at h
    refine bD_can_7 (d := d + 4) hK ry (fun g2 => bD_can_12 (d := d + 4) hK ?_) (fun g2 => ?_)
    · rw [if_pos (by omega)] at h
      exact h σ (DQ_rf hi)
    · refine bD_can_9 (d := d + 4) hK ry (fun g3 => ?_) (fun g3 => bD_can_12 (d := d + 4) hK ?_)
      · rw [if_neg (by omega)] at h
        refine bD_can_14 (d := d + 4) hK (sY_exist hK hi.1 hi.2.2.1 (fun r σ1 c1 hr => ?_))
        have h2 := YR_r hr
        refine bD_can_17 (d := d + 4) hK (r01_g h2) (fun g4 => ?_) (fun g4 => bD_can_18 (d := d + 4) hK ?_)
        · rw [ic_t (r01_n h2 g4)] at h
          refine bD_can_20 (d := d + 4) hK (sY_allow hK (Cok_y c1 hi.1) (YR_e hr g4) (by rw [c1 17 (by decide)]; exact ga) g2 (by omega) (fun r5 σ2 c2 y2 hr5 => ?_))
          rw [WC_y c1] at hr5
          have q := DQ_e hi (yfr_tr c1 c2) y2
          refine bD_can_25 (d := d + 4) hK (r01_g hr5) (fun g6 => bD_can_28 (d := d + 4) hK (bD_can_29 (d := d + 4) hK ?_)) (fun g6 => bD_can_26 (d := d + 4) hK (bD_can_29 (d := d + 4) hK ?_))
          · rw [ic_f (r01_0 hr5 g6)] at h
            exact h σ2 q
          · rw [ic_t (r01_n hr5 g6)] at h
            exact h σ2 q
        · rw [ic_f (r01_0 h2 g4)] at h
          exact h σ1 (DQ_y hi c1 (YR_v hr))
      · rw [if_pos (by omega)] at h
        exact h σ (DQ_rf hi)
  · rw [if_pos (r01_0 hr g)] at h
    exact h σ (DQ_rf hi)
theorem sD_left {K : am_KT} (hK : am_C K) {d : Nat} {σ : am_S} {Q : am_Q} {a : Int} (ra : am_rng a) (hi : CI σ) (h : ∀ σ', DQ σ σ' → Q (some (aLeft (σ 17 0) (WC σ) a)) σ') : K (d + 5) mD_left 0 [.inr 16, .inl a] [] σ Q := by
  have n0 : 0 ≤ σ 17 0 := hi.1.1.1.1
  have n8 : σ 17 0 ≤ 8 := hi.1.1.1.2
  unfold aLeft at h
  refine bD_left_0 (d := d + 4) hK (sL_has hK ra n0 n8 (fun r hr => ?_))
  refine bD_left_4 (d := d + 4) hK (r01_g hr) (fun g => ?_) (fun g => bD_left_5 (d := d + 4) hK ?_)
  · have ga := r01_n hr g
    rw [if_neg (fun q => q ga)] at h
    refine bD_left_7 (d := d + 4) hK (sY_exist hK hi.1 hi.2.2.1 (fun r σ1 c1 hr => ?_))
    have h2 := YR_r hr
    refine bD_left_10 (d := d + 4) hK (r01_g h2) (fun g4 => ?_) (fun g4 => bD_left_11 (d := d + 4) hK ?_)
    · rw [ic_t (r01_n h2 g4)] at h
      refine bD_left_13 (d := d + 4) hK (sY_daysOpenTo hK (Cok_y c1 hi.1) (YR_e hr g4) (by rw [c1 17 (by decide)]; exact ga) (fun σ2 c2 y2 => bD_left_17 (d := d + 4) hK ?_))
      rw [WC_y c1]
      exact h σ2 (DQ_e hi (yfr_tr c1 c2) y2)
    · rw [ic_f (r01_0 h2 g4)] at h
      exact h σ1 (DQ_y hi c1 (YR_v hr))
  · rw [if_pos (r01_0 hr g)] at h
    exact h σ (DQ_rf hi)
theorem sD_gap {K : am_KT} (hK : am_C K) {d : Nat} {σ : am_S} {Q : am_Q} {a b : Int} (ra : am_rng a) (rb : am_rng b) (hi : CI σ) (h : ∀ σ', DQ σ σ' → Q (some (aGap (σ 17 0) (WC σ) a b)) σ') : K (d + 5) mD_gap 0 [.inr 16, .inl a, .inl b] [] σ Q := by
  have n0 : 0 ≤ σ 17 0 := hi.1.1.1.1
  have n8 : σ 17 0 ≤ 8 := hi.1.1.1.2
  unfold aGap at h
  have no : (¬ (0 ≤ a ∧ a < σ 17 0) ∨ ¬ (0 ≤ b ∧ b < σ 17 0) ∨ a = b) → K (d + 5) mD_gap 13 [.inr 16, .inl a, .inl b] [] σ Q := fun q => by
    rw [if_pos q] at h
    exact bD_gap_13 (d := d + 4) hK (h σ (DQ_rf hi))
  refine bD_gap_0 (d := d + 4) hK (sL_has hK ra n0 n8 (fun r hr => ?_))
  refine bD_gap_4 (d := d + 4) hK (r01_g hr) (fun g => no (Or.inl (r01_0 hr g))) (fun g => ?_)
  have ga := r01_n hr g
  refine bD_gap_5 (d := d + 4) hK (sL_has hK rb n0 n8 (fun r2 hr2 => ?_))
  refine bD_gap_9 (d := d + 4) hK (r01_g hr2) (fun g2 => no (Or.inr (Or.inl (r01_0 hr2 g2)))) (fun g2 => ?_)
  have gb := r01_n hr2 g2
  refine bD_gap_10 (d := d + 4) hK ra rb (fun g3 => ?_) (fun g3 => no (Or.inr (Or.inr g3)))
  rw [if_neg (by omega)] at h
  refine bD_gap_15 (d := d + 4) hK (sY_exist hK hi.1 hi.2.2.1 (fun r σ1 c1 hr => ?_))
  have h2 := YR_r hr
  refine bD_gap_18 (d := d + 4) hK (r01_g h2) (fun g4 => ?_) (fun g4 => bD_gap_19 (d := d + 4) hK ?_)
  · rw [ic_t (r01_n h2 g4)] at h
    refine bD_gap_21 (d := d + 4) hK (sY_leastGap hK (Cok_y c1 hi.1) (YR_e hr g4) (by rw [c1 17 (by decide)]; exact ga) (by rw [c1 17 (by decide)]; exact gb) (fun σ2 c2 y2 => bD_gap_26 (d := d + 4) hK ?_))
    rw [WC_y c1]
    exact h σ2 (DQ_e hi (yfr_tr c1 c2) y2)
  · rw [ic_f (r01_0 h2 g4)] at h
    exact h σ1 (DQ_y hi c1 (YR_v hr))
theorem sD_ahead {K : am_KT} (hK : am_C K) {d : Nat} {σ : am_S} {Q : am_Q} {a what : Int} (ra : am_rng a) (rw' : am_rng what) (hi : CI σ) (h : ∀ σ', DQ σ σ' → Q (some (aAhead (σ 17 0) (WC σ) a what)) σ') : K (d + 5) mD_ahead 0 [.inr 16, .inl a, .inl what] [] σ Q := by
  have n0 : 0 ≤ σ 17 0 := hi.1.1.1.1
  have n8 : σ 17 0 ≤ 8 := hi.1.1.1.2
  unfold aAhead at h
  refine bD_ahead_0 (d := d + 4) hK (sL_has hK ra n0 n8 (fun r hr => ?_))
  refine bD_ahead_4 (d := d + 4) hK (r01_g hr) (fun g => ?_) (fun g => bD_ahead_5 (d := d + 4) hK ?_)
  · have ga := r01_n hr g
    rw [if_neg (fun q => q ga)] at h
    have go : (what = 0 ∨ what = 1) → K (d + 5) mD_ahead 14 [.inr 16, .inl a, .inl what] [] σ Q := fun hw => by
      rw [if_neg (by omega)] at h
      refine bD_ahead_14 (d := d + 4) hK (sY_exist hK hi.1 hi.2.2.1 (fun r σ1 c1 hr => ?_))
      have h2 := YR_r hr
      refine bD_ahead_17 (d := d + 4) hK (r01_g h2) (fun g2 => ?_) (fun g2 => bD_ahead_18 (d := d + 4) hK ?_)
      · rw [ic_t (r01_n h2 g2)] at h
        have ga1 : 0 ≤ a ∧ a < σ1 17 0 := by rw [c1 17 (by decide)]; exact ga
        refine bD_ahead_20 (d := d + 4) hK rw' (fun g3 => ?_) (fun g3 => ?_)
        · rw [if_neg g3] at h
          refine bD_ahead_27 (d := d + 4) hK (sY_thoseBehind hK (Cok_y c1 hi.1) (YR_e hr g2) ga1 (fun σ2 c2 y2 => bD_ahead_31 (d := d + 4) hK ?_))
          rw [WC_y c1, c1 17 (by decide)]
          exact h σ2 (DQ_e hi (yfr_tr c1 c2) y2)
        · rw [if_pos g3] at h
          refine bD_ahead_22 (d := d + 4) hK (sY_thoseAheadOf hK (Cok_y c1 hi.1) (YR_e hr g2) ga1 (fun σ2 c2 y2 => bD_ahead_26 (d := d + 4) hK (bD_ahead_31 (d := d + 4) hK ?_)))
          rw [WC_y c1, c1 17 (by decide)]
          exact h σ2 (DQ_e hi (yfr_tr c1 c2) y2)
      · rw [ic_f (r01_0 h2 g2)] at h
        exact h σ1 (DQ_y hi c1 (YR_v hr))
    refine bD_ahead_7 (d := d + 4) hK rw' (fun g2 => go (Or.inl g2)) (fun g2 => ?_)
    refine bD_ahead_9 (d := d + 4) hK rw' (fun g3 => go (Or.inr g3)) (fun g3 => bD_ahead_12 (d := d + 4) hK ?_)
    rw [if_pos (by omega)] at h
    exact h σ (DQ_rf hi)
  · rw [if_pos (r01_0 hr g)] at h
    exact h σ (DQ_rf hi)
theorem ahm_self {n : Int} {W : WS} (a : Int) (a0 : 0 ≤ a) : (ahm n W a).testBit a.toNat = false := by
  cases q : (ahm n W a).testBit a.toNat with
  | false => rfl
  | true =>
    have := ((mk_bit _ _ _).mp q).2.1
    exact absurd (show ((a.toNat : Nat) : Int) = a by omega) this
theorem sD_orders {K : am_KT} (hK : am_C K) {d : Nat} {σ : am_S} {Q : am_Q} (hi : CI σ) (h : ∀ σ', DQ σ σ' → Q (some (aOrders (σ 17 0) (WC σ))) σ') : K (d + 6) mD_orders 0 [.inr 16] [] σ Q := by
  have n0 : 0 ≤ σ 17 0 := hi.1.1.1.1
  have n8 : σ 17 0 ≤ 8 := hi.1.1.1.2
  unfold aOrders at h
  refine bD_orders_0 (d := d + 5) hK (sY_exist hK hi.1 hi.2.2.1 (fun r σ1 c1 hr => ?_))
  have h2 := YR_r hr
  refine bD_orders_3 (d := d + 5) hK (r01_g h2) (fun g2 => ?_) (fun g2 => bD_orders_4 (d := d + 5) hK ?_)
  · rw [ic_t (r01_n h2 g2)] at h
    refine bD_orders_6 (d := d + 5) hK (sO_take hK (Cok_y c1 hi.1) (YR_e hr g2) (fun σ2 c2 y2 o2 => ?_))
    rw [WC_y c1, c1 17 (by decide)] at o2
    refine bD_orders_14 (d := d + 5) hK (sO_howMany (d := d + 4) hK n0 n8 o2 (ahm_lt n8) ahm_self (fun σ3 c3 => bD_orders_17 (d := d + 5) hK ?_))
    refine h σ3 (DQ_o hi (fun c hc => ?_) (Or.inr (Or.inr (YE_eq (fun c _ h2 => c3 c (by omega)) y2))))
    rw [c3 c (by omega), c2 c hc, c1 c (by omega)]
  · rw [ic_f (r01_0 h2 g2)] at h
    exact h σ1 (DQ_y hi c1 (YR_v hr))
theorem sD_order {K : am_KT} (hK : am_C K) {d : Nat} {σ : am_S} {Q : am_Q} {k : Int} (rk : am_rng k) (hi : CI σ) (h : ∀ σ', DQ σ σ' → Q (some (aOrder (σ 17 0) (WC σ) k)) σ') : K (d + 6) mD_order 0 [.inr 16, .inl k] [] σ Q := by
  have n0 : 0 ≤ σ 17 0 := hi.1.1.1.1
  have n8 : σ 17 0 ≤ 8 := hi.1.1.1.2
  unfold aOrder at h
  refine bD_order_0 (d := d + 5) hK rk (fun g => bD_order_5 (d := d + 5) hK ?_) (fun g => ?_)
  · rw [if_pos (by omega)] at h
    exact h σ (DQ_rf hi)
  · refine bD_order_2 (d := d + 5) hK rk (fun g1 => ?_) (fun g1 => bD_order_5 (d := d + 5) hK ?_)
    · rw [if_neg (by omega)] at h
      refine bD_order_7 (d := d + 5) hK (sY_exist hK hi.1 hi.2.2.1 (fun r σ1 c1 hr => ?_))
      have h2 := YR_r hr
      refine bD_order_10 (d := d + 5) hK (r01_g h2) (fun g2 => ?_) (fun g2 => bD_order_11 (d := d + 5) hK ?_)
      · have hE := r01_n h2 g2
        rw [ic_t hE] at h
        have e17 : σ1 17 0 = σ 17 0 := by rw [c1 17 (by decide)]
        refine bD_order_13 (d := d + 5) hK rk (by rw [e17]; exact ⟨by omega, by omega⟩) (fun g3 => ?_) (fun g3 => bD_order_18 (d := d + 5) hK ?_)
        · rw [e17] at g3
          rw [if_neg (by omega)] at h
          refine bD_order_20 (d := d + 5) hK (sO_take hK (Cok_y c1 hi.1) (YR_e hr g2) (fun σ2 c2 y2 o2 => ?_))
          rw [WC_y c1, e17] at o2
          refine bD_order_28 (d := d + 5) hK (sO_ofFirst (d := d + 3) hK n0 n8 hE (fun w hw a a0 an => Way_r hi.1.1 hw a0 an) o2 g g3 (bD_order_32 (d := d + 5) hK ?_))
          exact h σ2 (DQ_o hi (fun c hc => by rw [c2 c hc, c1 c (by omega)]) (Or.inr (Or.inr y2)))
        · rw [e17] at g3
          rw [if_pos g3] at h
          exact h σ1 (DQ_y hi c1 (YR_v hr))
      · rw [ic_f (r01_0 h2 g2)] at h
        exact h σ1 (DQ_y hi c1 (YR_v hr))
    · rw [if_pos (by omega)] at h
      exact h σ (DQ_rf hi)
theorem DQ_t {σ σ' : am_S} (hi : CI σ) (h : tfr σ σ') (ht : TV σ') : DQ σ σ' := ⟨fun c hc => h c (by omega), YV_eq (fun c _ h2 => h c (by omega)) hi.2.2.1, ht⟩
theorem sD_knot {K : am_KT} (hK : am_C K) {d : Nat} {σ : am_S} {Q : am_Q} {what : Int} (rw' : am_rng what) (hi : CI σ) (h : ∀ σ', DQ σ σ' → Q (some (aKnot (σ 25) (σ 20 0) (WN (pbC σ)) (σ 20 1).toNat what)) σ') : K (d + 16) mD_knot 0 [.inr 16, .inl what] [] σ Q := by
  have m0 : 0 ≤ σ 20 0 := hi.1.1.2.2.1.1
  have m10 : σ 20 0 ≤ 10 := hi.1.1.2.2.1.2
  unfold aKnot at h
  have go : (what = 0 ∨ what = 1) → K (d + 16) mD_knot 7 [.inr 16, .inl what] [] σ Q := fun hw => by
    rw [if_neg (by omega)] at h
    refine bD_knot_7 (d := d + 15) hK (sT_lightest hK hi.1 hi.2.1 hi.2.2.2 (fun σ1 c1 t1 k1 => ?_))
    have q := DQ_t hi c1 t1
    refine bD_knot_10 (d := d + 15) hK rw' (fun g => ?_) (fun g => ?_)
    · rw [if_neg g] at h
      refine bD_knot_15 (d := d + 15) hK (sN_weightOf hK k1 (by rw [c1 20 (by decide)]; exact m0) (by rw [c1 20 (by decide)]; exact m10) (bD_knot_19 (d := d + 15) hK ?_))
      rw [c1 20 (by decide), c1 25 (by decide)]
      exact h σ1 q
    · rw [if_pos g] at h
      exact bD_knot_13 (d := d + 15) hK (bD_knot_19 (d := d + 15) hK (h σ1 q))
  refine bD_knot_0 (d := d + 15) hK rw' (fun g => go (Or.inl g)) (fun g => ?_)
  refine bD_knot_2 (d := d + 15) hK rw' (fun g2 => go (Or.inr g2)) (fun g2 => bD_knot_5 (d := d + 15) hK ?_)
  rw [if_pos (by omega)] at h
  exact h σ (DQ_rf hi)
theorem sD_core {K : am_KT} (hK : am_C K) {d : Nat} {σ : am_S} {Q : am_Q} (hi : CI σ) (h : ∀ σ', DQ σ σ' → Q (some (aCore (σ 20 0) (WN (pbC σ)) (σ 20 1).toNat)) σ') : K (d + 5) mD_core 0 [.inr 16] [] σ Q := by
  unfold aCore at h
  refine bD_core_0 (d := d + 4) hK (sY_exist hK hi.1 hi.2.2.1 (fun r σ1 c1 hr => ?_))
  have h2 : r01 r (Exi (WN (pbC σ) (σ 20 1).toNat)) := YR_r hr
  have q := DQ_y hi c1 (YR_v hr)
  refine bD_core_3 (d := d + 4) hK (r01_g h2) (fun g2 => ?_) (fun g2 => bD_core_4 (d := d + 4) hK (bD_core_9 (d := d + 4) hK ?_))
  · rw [ic_f (r01_0 h2 g2)] at h
    refine bD_core_6 (d := d + 4) hK (sT_unsparable hK (Cok_y c1 hi.1) (fun σ2 c2 => bD_core_9 (d := d + 4) hK ?_))
    rw [pbC_y c1, c1 20 (by decide)]
    exact h σ2 ⟨fun c hc => (c2 c (by omega)).trans (q.1 c hc), YV_eq (fun c _ h2 => c2 c (by omega)) q.2.1, TV_eq (fun c hc => c2 c (by omega)) q.2.2⟩
  · rw [ic_t (r01_n h2 g2)] at h
    exact h σ1 q
theorem sD_worst {K : am_KT} (hK : am_C K) {d : Nat} {σ : am_S} {Q : am_Q} {a : Int} (ra : am_rng a) (hi : CI σ) (h : ∀ σ', DQ σ σ' → Q (some (aWorst (σ 17 0) (WC σ) a)) σ') : K (d + 5) mD_worst 0 [.inr 16, .inl a] [] σ Q := by
  have n0 : 0 ≤ σ 17 0 := hi.1.1.1.1
  have n8 : σ 17 0 ≤ 8 := hi.1.1.1.2
  unfold aWorst at h
  refine bD_worst_0 (d := d + 4) hK (sL_has hK ra n0 n8 (fun r hr => ?_))
  refine bD_worst_4 (d := d + 4) hK (r01_g hr) (fun g => ?_) (fun g => bD_worst_5 (d := d + 4) hK ?_)
  · have ga := r01_n hr g
    rw [if_neg (fun q => q ga)] at h
    refine bD_worst_7 (d := d + 4) hK (sY_exist hK hi.1 hi.2.2.1 (fun r σ1 c1 hr => ?_))
    have h2 := YR_r hr
    refine bD_worst_10 (d := d + 4) hK (r01_g h2) (fun g4 => ?_) (fun g4 => bD_worst_11 (d := d + 4) hK ?_)
    · rw [ic_t (r01_n h2 g4)] at h
      refine bD_worst_13 (d := d + 4) hK (sY_greatestRest hK (Cok_y c1 hi.1) (YR_e hr g4) (by rw [c1 17 (by decide)]; exact ga) (fun σ2 c2 y2 _ => bD_worst_17 (d := d + 4) hK ?_))
      rw [WC_y c1, c1 17 (by decide)]
      exact h σ2 (DQ_e hi (yfr_tr c1 c2) y2)
    · rw [ic_f (r01_0 h2 g4)] at h
      exact h σ1 (DQ_y hi c1 (YR_v hr))
  · rw [if_pos (r01_0 hr g)] at h
    exact h σ (DQ_rf hi)
theorem sD_best {K : am_KT} (hK : am_C K) {d : Nat} {σ : am_S} {Q : am_Q} (hi : CI σ) (h : ∀ σ', DQ σ σ' → Q (some (aBest (σ 17 0) (WC σ))) σ') : K (d + 5) mD_best 0 [.inr 16] [] σ Q := by
  have n0 : 0 ≤ σ 17 0 := hi.1.1.1.1
  have n8 : σ 17 0 ≤ 8 := hi.1.1.1.2
  unfold aBest at h
  refine bD_best_0 (d := d + 4) hK (sY_exist hK hi.1 hi.2.2.1 (fun r σ1 c1 hr => ?_))
  have h2 := YR_r hr
  refine bD_best_3 (d := d + 4) hK (r01_g h2) (fun g2 => bD_best_6 (d := d + 4) hK ?_) (fun g2 => bD_best_4 (d := d + 4) hK ?_)
  · rw [ic_t (r01_n h2 g2)] at h
    have loop : ∀ (a : Int) (t : (Int × Int) × am_S), a ≤ σ 17 0 → (0 ≤ a ∧ yfr σ t.2 ∧ YE t.2 ∧ t.1 = bst (σ 17 0) (WC σ) a.toNat ∧ (-9 ≤ t.1.1 ∧ t.1.1 ≤ 8) ∧ (0 ≤ t.1.2 ∧ t.1.2 ≤ 1592)) → K (d + 5) mD_best 12 [.inr 16, .inl t.1.1, .inl t.1.2, .inl a] [] t.2 Q := by
      refine am_up (P := fun a (t : (Int × Int) × am_S) => 0 ≤ a ∧ yfr σ t.2 ∧ YE t.2 ∧ t.1 = bst (σ 17 0) (WC σ) a.toNat ∧ (-9 ≤ t.1.1 ∧ t.1.1 ≤ 8) ∧ (0 ≤ t.1.2 ∧ t.1.2 ≤ 1592)) (C := fun a t => K (d + 5) mD_best 12 [.inr 16, .inl t.1.1, .inl t.1.2, .inl a] [] t.2 Q) (fun t hp => ?_) (fun a t ha hp ih => ?_)
      · obtain ⟨⟨u, v⟩, τ⟩ := t
        obtain ⟨-, cτ, yτ, e, r1, r2⟩ := hp
        dsimp only at cτ yτ e r1 r2 ⊢
        have e17 : τ 17 0 = σ 17 0 := by rw [cτ 17 (by decide)]
        refine bD_best_12 (d := d + 4) hK ⟨by omega, by omega⟩ (by rw [e17]; exact ⟨by omega, by omega⟩) (fun _ => bD_best_34 (d := d + 4) hK ?_) (fun g => absurd g (by omega))
        have e2 : u = (bst (σ 17 0) (WC σ) (σ 17 0).toNat).1 := by rw [← e]
        rw [e2]
        exact h τ (DQ_e hi cτ yτ)
      · obtain ⟨⟨u, v⟩, τ⟩ := t
        obtain ⟨a0, cτ, yτ, e, r1, r2⟩ := hp
        dsimp only at cτ yτ e r1 r2 ih ⊢
        have e17 : τ 17 0 = σ 17 0 := by rw [cτ 17 (by decide)]
        refine bD_best_12 (d := d + 4) hK ⟨by omega, by omega⟩ (by rw [e17]; exact ⟨by omega, by omega⟩) (fun g => absurd g (by omega)) (fun _ => ?_)
        refine bD_best_17 (d := d + 4) hK (sY_greatestRest hK (Cok_y cτ hi.1) yτ (by omega) (fun σ2 c2 y2 hw => ?_))
        rw [WC_y cτ, e17] at hw ⊢
        have c3 : yfr σ σ2 := yfr_tr cτ c2
        have es := bst_s (n := σ 17 0) (W := WC σ) a0
        rw [← e] at es
        have take : (u = -9 ∨ wst (σ 17 0) (WC σ) a 200 < v) → K (d + 5) mD_best 28 [.inr 16, .inl u, .inl v, .inl a, .inl (wst (σ 17 0) (WC σ) a 200)] [] σ2 Q := fun q => by
          rw [if_pos q] at es
          exact bD_best_28 (d := d + 4) hK (bD_best_32 (d := d + 4) hK (ih ((a, wst (σ 17 0) (WC σ) a 200), σ2) ⟨by omega, c3, y2, es.symm, ⟨by show -9 ≤ a; omega, by show a ≤ 8; omega⟩, hw⟩))
        refine bD_best_21 (d := d + 4) hK ⟨by omega, by omega⟩ (fun g => take (Or.inl g)) (fun g => ?_)
        refine bD_best_25 (d := d + 4) hK ⟨by omega, by omega⟩ ⟨by omega, by omega⟩ (fun g2 => ?_) (fun g2 => take (Or.inr g2))
        rw [if_neg (by show ¬ (u = -9 ∨ wst (σ 17 0) (WC σ) a 200 < v); omega)] at es
        exact bD_best_32 (d := d + 4) hK (ih ((u, v), σ2) ⟨by omega, c3, y2, es.symm, r1, r2⟩)
    exact loop 0 ((-9, 0), σ1) n0 ⟨Int.le_refl 0, c1, YR_e hr g2, rfl, ⟨(by decide : (-9 : Int) ≤ -9), (by decide : (-9 : Int) ≤ 8)⟩, ⟨(by decide : (0 : Int) ≤ 0), (by decide : (0 : Int) ≤ 1592)⟩⟩
  · rw [ic_f (r01_0 h2 g2)] at h
    exact h σ1 (DQ_y hi c1 (YR_v hr))
