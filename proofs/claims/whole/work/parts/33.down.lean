/-! the class: Ways: sweepDown, sweep -/
theorem sumI_sub (f g : Int → Int) : ∀ n : Nat, sumI (fun b => f b - g b) n = sumI f n - sumI g n
  | 0 => rfl
  | n + 1 => by
    show sumI (fun b => f b - g b) n + (f n - g n) = sumI f n + f n - (sumI g n + g n)
    rw [sumI_sub f g n]
    omega
theorem wst_c (n : Int) (W : WS) (a : Int) : ∀ k : Nat, 0 ≤ wst n W a k ∧ (∀ y : Int, 0 ≤ y → y < k → Can W a y → wdt n W a y ≤ wst n W a k) ∧ (wst n W a k = 0 ∨ ∃ y : Int, 0 ≤ y ∧ y < k ∧ Can W a y ∧ wdt n W a y = wst n W a k)
  | 0 => ⟨Int.le_refl 0, fun y y0 y1 => absurd y1 (by omega), Or.inl rfl⟩
  | k + 1 => by
    obtain ⟨h1, h2, h3⟩ := wst_c n W a k
    rw [wst]
    by_cases hc : Can W a (k : Int)
    · rw [ic_t hc]
      refine ⟨by omega, fun y y0 y1 hy => ?_, ?_⟩
      · by_cases e : y = k
        · rw [e]
          omega
        · have := h2 y y0 (by omega) hy
          omega
      · by_cases hm : wst n W a k ≤ wdt n W a (k : Int)
        · rw [Int.max_eq_right hm]
          exact Or.inr ⟨k, by omega, by omega, hc, rfl⟩
        · rw [Int.max_eq_left (by omega)]
          rcases h3 with q | ⟨y, y0, y1, q⟩
          · exact Or.inl q
          · exact Or.inr ⟨y, y0, by omega, q⟩
    · rw [ic_f hc]
      refine ⟨h1, fun y y0 y1 hy => ?_, ?_⟩
      · by_cases e : y = k
        · rw [e] at hy
          exact absurd hy hc
        · exact h2 y y0 (by omega) hy
      · rcases h3 with q | ⟨y, y0, y1, q⟩
        · exact Or.inl q
        · exact Or.inr ⟨y, y0, by omega, q⟩
theorem wst_u {n : Int} {W : WS} {a m : Int} (m0 : 0 ≤ m) (h1 : ∀ y : Int, 0 ≤ y → y < 200 → Can W a y → wdt n W a y ≤ m) (h2 : m = 0 ∨ ∃ y : Int, 0 ≤ y ∧ y < 200 ∧ Can W a y ∧ wdt n W a y = m) : m = wst n W a 200 := by
  obtain ⟨g0, g1, g2⟩ := wst_c n W a 200
  have l1 : m ≤ wst n W a 200 := by
    rcases h2 with q | ⟨y, y0, y1, hc, q⟩
    · omega
    · have := g1 y y0 y1 hc
      omega
  have l2 : wst n W a 200 ≤ m := by
    rcases g2 with q | ⟨y, y0, y1, hc, q⟩
    · omega
    · have := h1 y y0 y1 hc
      omega
  omega
def nfr (a : Int) (σ σ' : am_S) : Prop := (∀ c, c ≠ 29 → c ≠ 33 → σ' c = σ c) ∧ ∀ j, j ≠ a → σ' 33 j = σ 33 j
set_option maxHeartbeats 2000000 in
theorem sY_sweepDown {K : am_KT} (hK : am_C K) {d : Nat} {σ : am_S} {Q : am_Q} {a : Int} {W : WS} (n8 : σ 17 0 ≤ 8) (ha : 0 ≤ a ∧ a < σ 17 0) (hV : WebV σ 34 (σ 17 0) 20) (hS : ∀ w, wSol σ 34 w ↔ W w) (hL : LGW (σ 17 0) W (-9) 0 (σ 27) (σ 28)) (hR : ∀ w, W w → ∀ a, 0 ≤ a → a < σ 17 0 → 0 ≤ w a ∧ w a ≤ 199)
    (hE : ∀ t, 0 ≤ t → t < 200 → LsE (σ 17 0) W a t (σ 30 (a * 200 + t))) (h : ∀ σ', nfr a σ σ' → σ' 33 a = wst (σ 17 0) W a 200 → σ' 33 a ≤ 1592 → Q none σ') : K (d + 2) mY_sweepDown 0 [.inr 26, .inl a] [] σ Q := by
  obtain ⟨v1, v2, v3, v4, v5⟩ := id hV
  have torn : σ 34 1 = 0 := ((hS _).mpr hL.1.1).1
  have hW : ∀ w, W w ↔ wLk σ 34 w ∧ btw (σ 17 0) (σ 35) (σ 36) w := fun w => by
    rw [← hS w]
    unfold wSol
    rw [wSat_iff, v1]
    exact ⟨fun z => z.2, fun z => ⟨torn, z⟩⟩
  have hL2 : ∀ w, W w → ∀ b, 0 ≤ b → b < σ 17 0 → σ 27 b ≤ w b ∧ w b ≤ σ 28 b := fun w hw => hL.2.2 w (WP_n.mpr hw)
  have h27 : ∀ b, 0 ≤ b → b < σ 17 0 → 0 ≤ σ 27 b ∧ σ 27 b ≤ 199 := fun b b0 bn => hR _ hL.1.1 b b0 bn
  have h28 : ∀ b, 0 ≤ b → b < σ 17 0 → 0 ≤ σ 28 b ∧ σ 28 b ≤ 199 := fun b b0 bn => hR _ hL.2.1.1 b b0 bn
  have hg := (hW _).mp hL.2.1.1
  have h27a := h27 a ha.1 ha.2
  have h28a := h28 a ha.1 ha.2
  have h278 := (hL2 _ hL.1.1 a ha.1 ha.2).2
  have loop : ∀ (y : Int) (τ : am_S), σ 27 a - 1 ≤ y → (y ≤ σ 28 a ∧ nfr a σ τ ∧ (∀ w, W w → w a ≤ y → ∀ b, 0 ≤ b → b < σ 17 0 → w b ≤ τ 29 b) ∧ (∀ b, 0 ≤ b → b < σ 17 0 → τ 29 b ≤ σ 28 b ∧ (σ 37 b ≠ -1 → τ 29 b % 7 = σ 37 b)) ∧ (0 ≤ τ 33 a ∧ τ 33 a ≤ 1592) ∧ (∀ t : Int, y < t → t < 200 → Can W a t → wdt (σ 17 0) W a t ≤ τ 33 a) ∧ (τ 33 a = 0 ∨ ∃ t : Int, 0 ≤ t ∧ t < 200 ∧ Can W a t ∧ wdt (σ 17 0) W a t = τ 33 a)) → K (d + 2) mY_sweepDown 27 [.inr 26, .inl a, .inl y] [] τ Q := by
    refine am_dn (P := fun y τ => y ≤ σ 28 a ∧ nfr a σ τ ∧ (∀ w, W w → w a ≤ y → ∀ b, 0 ≤ b → b < σ 17 0 → w b ≤ τ 29 b) ∧ (∀ b, 0 ≤ b → b < σ 17 0 → τ 29 b ≤ σ 28 b ∧ (σ 37 b ≠ -1 → τ 29 b % 7 = σ 37 b)) ∧ (0 ≤ τ 33 a ∧ τ 33 a ≤ 1592) ∧ (∀ t : Int, y < t → t < 200 → Can W a t → wdt (σ 17 0) W a t ≤ τ 33 a) ∧ (τ 33 a = 0 ∨ ∃ t : Int, 0 ≤ t ∧ t < 200 ∧ Can W a t ∧ wdt (σ 17 0) W a t = τ 33 a)) (C := fun y τ => K (d + 2) mY_sweepDown 27 [.inr 26, .inl a, .inl y] [] τ Q) (fun τ hp => ?_) (fun y τ hy hp ih => ?_)
    · obtain ⟨-, c, -, -, hr0, hr1, hr2⟩ := hp
      have e27 : τ 27 = σ 27 := c.1 27 (by decide) (by decide)
      refine bY_sweepDown_27 (d := d + 1) hK (by omega) ⟨by omega, by omega⟩ (by rw [e27]; exact ⟨by omega, by omega⟩) (fun _ => bY_sweepDown_70 (d := d + 1) hK (h τ c ?_ hr0.2)) (fun g => absurd g (by rw [e27]; omega))
      refine wst_u hr0.1 (fun t t0 t1 ht => ?_) hr2
      refine hr1 t ?_ t1 ht
      obtain ⟨w, hw, e⟩ := ht
      have := (hL2 w hw a ha.1 ha.2).1
      omega
    · obtain ⟨hy2, c, hm, hx, hr0, hr1, hr2⟩ := hp
      have e27 : τ 27 = σ 27 := c.1 27 (by decide) (by decide)
      have e30 : τ 30 = σ 30 := c.1 30 (by decide) (by decide)
      have e17 : τ 17 = σ 17 := c.1 17 (by decide) (by decide)
      have y0 : 0 ≤ y := by omega
      have hE2 := hE y y0 (by omega)
      have re : am_rng (σ 30 (a * 200 + y)) := by
        rcases hE2 with ⟨q, -⟩ | ⟨x, x1, x2, x3, q⟩
        · rw [q]; exact ⟨by decide, by decide⟩
        · have q1 := sumI_lb (f := x) (c := 0) (σ 17 0).toNat (fun b b0 bn => (hR x x1 b b0 (by omega)).1)
          have q2 := sumI_ub (f := x) (c := 199) (σ 17 0).toNat (fun b b0 bn => (hR x x1 b b0 (by omega)).2)
          exact ⟨by omega, by omega⟩
      refine bY_sweepDown_27 (d := d + 1) hK (by omega) ⟨by omega, by omega⟩ (by rw [e27]; exact ⟨by omega, by omega⟩) (fun g => absurd g (by rw [e27]; omega)) (fun _ => ?_)
      refine bY_sweepDown_33 (d := d + 1) hK (by omega) (by rw [e30]; exact re) (fun g => ?_) (fun g => ?_)
      · rw [e30] at g ⊢
        have hno : ¬ Can W a y := by
          rcases hE2 with q | ⟨x, x1, x2, x3, q⟩
          · exact q.2
          · have q1 := sumI_lb (f := x) (c := 0) (σ 17 0).toNat (fun b b0 bn => (hR x x1 b b0 (by omega)).1)
            omega
        refine bY_sweepDown_68 (d := d + 1) hK (ih τ ⟨by omega, c, fun w hw hwa => hm w hw (by omega), hx, hr0, fun t t1 t2 ht => ?_, hr2⟩)
        by_cases e : t = y
        · rw [e] at ht
          exact absurd ht hno
        · exact hr1 t (by omega) t2 ht
      · rw [e30] at g ⊢
        obtain ⟨x, x1, x2, x3, x4⟩ : ∃ x : Int → Int, W x ∧ x a = y ∧ (∀ w, W w → w a = y → ∀ b, 0 ≤ b → b < σ 17 0 → x b ≤ w b) ∧ σ 30 (a * 200 + y) = sumI x (σ 17 0).toNat := by
          rcases hE2 with q | q
          · exact absurd q.1 g
          · exact q
        have hxw := (hW x).mp x1
        refine bY_sweepDown_45 (d := d + 1) hK (by omega) ?_
        generalize hτ1 : am_us τ 29 a y = τ1
        have k1 : ∀ c', c' ≠ 29 → τ1 c' = τ c' := fun c' hc' => by rw [← hτ1, us_o _ _ _ hc']
        have k29 : ∀ j, τ1 29 j = if j = a then y else τ 29 j := fun j => by rw [← hτ1, us_s]
        have fr1 : ∀ c', c' ≠ 29 → c' ≠ 33 → τ1 c' = σ c' := fun c' h9 h3 => (k1 c' h9).trans (c.1 c' h9 h3)
        have V1 : WebV τ1 34 (σ 17 0) 20 := by
          unfold WebV
          rw [fr1 34 (by decide) (by decide), fr1 (34 + 1) (by decide) (by decide), fr1 (34 + 2) (by decide) (by decide), fr1 (34 + 3) (by decide) (by decide), fr1 (34 + 4) (by decide) (by decide), fr1 (34 + 5) (by decide) (by decide), fr1 (34 + 6) (by decide) (by decide)]
          exact hV
        have L1 : wLk τ1 34 = wLk σ 34 := by
          unfold wLk
          rw [fr1 34 (by decide) (by decide), fr1 (34 + 3) (by decide) (by decide), fr1 (34 + 4) (by decide) (by decide), fr1 (34 + 5) (by decide) (by decide), fr1 (34 + 6) (by decide) (by decide)]
        have le1 : ∀ w, W w → w a ≤ y → ∀ b, 0 ≤ b → b < σ 17 0 → w b ≤ τ1 29 b := fun w hw hwa b b0 bn => by
          rw [k29]
          split
          · rename_i e
            rw [e]
            exact hwa
          · exact hm w hw hwa b b0 bn
        have le2 : ∀ b, 0 ≤ b → b < σ 17 0 → τ1 29 b ≤ σ 28 b := fun b b0 bn => by
          rw [k29]
          split
          · rename_i e
            rw [e]
            exact hy2
          · exact (hx b b0 bn).1
        refine sW_sink (w0 := x) hK (Or.inl rfl) (Or.inr (Or.inr (Or.inl rfl))) (by omega) n8 V1 (fun b b0 bn => ?_) (fun b b0 bn => ?_) (by rw [L1]; exact hxw.1) (fun b b0 bn => ⟨(hR x x1 b b0 bn).1, le1 x x1 (by omega) b b0 bn⟩) (fun σ2 c2 g1 g2 g3 => ?_)
        · have := le2 b b0 bn
          have := (h28 b b0 bn).2
          omega
        · rw [fr1 (34 + 3) (by decide) (by decide), k29]
          by_cases e : b = a
          · rw [if_pos e, ← x2, e]
            exact hxw.1.1 a ha.1 (by rw [v1]; exact ha.2)
          · rw [if_neg e]
            exact (hx b b0 bn).2
        · rw [L1] at g1 g3
          have W2 : W (σ2 29) := (hW _).mpr ⟨g1, fun b b0 bn => by
            have q1 := g3 x hxw.1 (le1 x x1 (by omega)) b b0 bn
            have q2 := g2 b b0 bn
            have q3 := le2 b b0 bn
            have q4 := (hxw.2 b b0 bn).1
            have q5 := (hg.2 b b0 bn).2
            omega⟩
          have ea : σ2 29 a = y := by
            have q1 := g3 x hxw.1 (le1 x x1 (by omega)) a ha.1 ha.2
            have q2 := g2 a ha.1 ha.2
            rw [k29, if_pos rfl] at q2
            omega
          have mx : ∀ w, W w → w a ≤ y → ∀ b, 0 ≤ b → b < σ 17 0 → w b ≤ σ2 29 b := fun w hw hwa => g3 w ((hW w).mp hw).1 (le1 w hw hwa)
          have LG : LGW (σ 17 0) W a y x (σ2 29) := ⟨(WP_a ha.1).mpr ⟨x1, x2⟩, (WP_a ha.1).mpr ⟨W2, ea⟩, fun w hw b b0 bn => by
            have hw2 := (WP_a ha.1).mp hw
            exact ⟨x3 w hw2.1 hw2.2 b b0 bn, mx w hw2.1 (by omega) b b0 bn⟩⟩
          have f2 : ∀ c', c' ≠ 29 → c' ≠ 33 → σ2 c' = σ c' := fun c' h9 h3 => (c2 c' h9).trans (fr1 c' h9 h3)
          have e33 : σ2 33 = τ 33 := (c2 33 (by decide)).trans (k1 33 (by decide))
          have s17 : σ2 17 0 = σ 17 0 := by rw [f2 17 (by decide) (by decide)]
          refine bY_sweepDown_55 (d := d + 1) hK (by omega) (sY_sumOfDays hK (by rw [s17]; omega) (by rw [s17]; exact n8) ?_)
          rw [s17, e33]
          have ew := wdt_e (by omega) LG
          rw [sumI_sub, ← x4] at ew
          have er := wdt_r (by omega) n8 LG hR
          have hcan : Can W a y := ⟨x, x1, x2⟩
          refine bY_sweepDown_64 (d := d + 1) hK ⟨by omega, by omega⟩ ⟨by omega, by omega⟩ (by omega) ?_
          rw [ew]
          have n33 : am_us σ2 33 a (max (τ 33 a) (wdt (σ 17 0) W a y)) 33 a = max (τ 33 a) (wdt (σ 17 0) W a y) := us_e _ _ _ _
          have n29 : am_us σ2 33 a (max (τ 33 a) (wdt (σ 17 0) W a y)) 29 = σ2 29 := us_o _ _ _ (by decide)
          refine bY_sweepDown_68 (d := d + 1) hK (ih _ ⟨by omega, ⟨fun c' h9 h3 => ?_, fun j hj => ?_⟩, ?_, ?_, ?_, ?_, ?_⟩)
          · rw [us_o _ _ _ h3]
            exact f2 c' h9 h3
          · rw [us_n _ _ _ hj, e33]
            exact c.2 j hj
          · rw [n29]
            intro w hw hwa
            exact mx w hw (by omega)
          · rw [n29]
            intro b b0 bn
            have q2 := g2 b b0 bn
            have q3 := le2 b b0 bn
            exact ⟨by omega, fun hne => g1.1 b b0 (by rw [v1]; exact bn) hne⟩
          · rw [n33]
            omega
          · rw [n33]
            intro t t1 t2 ht
            by_cases e : t = y
            · rw [e]
              omega
            · have := hr1 t (by omega) t2 ht
              omega
          · rw [n33]
            by_cases hmm : τ 33 a ≤ wdt (σ 17 0) W a y
            · rw [Int.max_eq_right hmm]
              exact Or.inr ⟨y, y0, by omega, hcan, rfl⟩
            · rw [Int.max_eq_left (by omega)]
              exact hr2
  have loop0 : ∀ (b : Int) (τ : am_S), b ≤ σ 17 0 → (0 ≤ b ∧ nfr a σ τ ∧ τ 33 a = 0 ∧ ∀ x, 0 ≤ x → x < b → τ 29 x = σ 28 x) → K (d + 2) mY_sweepDown 7 [.inr 26, .inl a, .inl b] [] τ Q := by
    refine am_up (P := fun b τ => 0 ≤ b ∧ nfr a σ τ ∧ τ 33 a = 0 ∧ ∀ x, 0 ≤ x → x < b → τ 29 x = σ 28 x) (C := fun b τ => K (d + 2) mY_sweepDown 7 [.inr 26, .inl a, .inl b] [] τ Q) (fun τ hp => ?_) (fun b τ hb hp ih => ?_)
    · obtain ⟨-, c, h33, hx⟩ := hp
      have e17 : τ 17 = σ 17 := c.1 17 (by decide) (by decide)
      have e28 : τ 28 = σ 28 := c.1 28 (by decide) (by decide)
      refine bY_sweepDown_7 (d := d + 1) hK ⟨by omega, by omega⟩ (by rw [e17]; exact ⟨by omega, by omega⟩) (fun _ => bY_sweepDown_22 (d := d + 1) hK (by omega) ?_) (fun g => absurd g (by rw [e17]; omega))
      rw [e28]
      refine loop _ τ (by omega) ⟨Int.le_refl _, c, fun w hw _ b b0 bn => ?_, fun b b0 bn => ?_, by rw [h33]; omega, fun t t1 t2 ht => ?_, Or.inl h33⟩
      · rw [hx b b0 bn]
        exact (hL2 w hw b b0 bn).2
      · rw [hx b b0 bn]
        exact ⟨Int.le_refl _, fun hne => hg.1.1 b b0 (by rw [v1]; exact bn) hne⟩
      · obtain ⟨w, hw, e⟩ := ht
        have := (hL2 w hw a ha.1 ha.2).2
        omega
    · obtain ⟨b0, c, h33, hx⟩ := hp
      have e17 : τ 17 = σ 17 := c.1 17 (by decide) (by decide)
      have e28 : τ 28 = σ 28 := c.1 28 (by decide) (by decide)
      refine bY_sweepDown_7 (d := d + 1) hK ⟨by omega, by omega⟩ (by rw [e17]; exact ⟨by omega, by omega⟩) (fun g => absurd g (by rw [e17]; omega)) (fun _ => ?_)
      refine bY_sweepDown_12 (d := d + 1) hK (by omega) (by omega) (ih _ ⟨by omega, ⟨fun c' h9 h3 => ?_, fun j hj => ?_⟩, ?_, fun x x0 xb => ?_⟩)
      · rw [us_o _ _ _ h9]
        exact c.1 c' h9 h3
      · rw [us_o _ _ _ (by decide)]
        exact c.2 j hj
      · rw [us_o _ _ _ (by decide)]
        exact h33
      · rw [us_s, e28]
        by_cases e : x = b
        · rw [if_pos e, e]
        · rw [if_neg e]
          exact hx x x0 (by omega)
  refine bY_sweepDown_0 (d := d + 1) hK (by omega) (loop0 0 _ (by omega) ⟨Int.le_refl 0, ⟨fun c' h9 h3 => ?_, fun j hj => ?_⟩, us_e _ _ _ _, fun x x0 xb => absurd xb (by omega)⟩)
  · rw [us_o _ _ _ h3]
  · rw [us_n _ _ _ hj]
