/-! the reference: worst, best -/
theorem sumI_ub {f : Int → Int} {c : Int} : ∀ (n : Nat), (∀ q : Int, 0 ≤ q → q < n → f q ≤ c) → sumI f n ≤ c * n
  | 0, _ => by simp [sumI]
  | n + 1, h => by
    have h1 := sumI_ub n (fun q h0 h1 => h q h0 (by omega))
    have h2 := h n (by omega) (by omega)
    show sumI f n + f n ≤ c * ((n + 1 : Nat) : Int)
    have e : c * ((n + 1 : Nat) : Int) = c * n + c := by rw [Int.natCast_add, Int.mul_add]; simp
    omega
theorem sM_widthAll {K : am_KT} (hK : am_C K) {d : Nat} {σ : am_S} {Q : am_Q} (n0 : 0 ≤ σ 0 0) (n8 : σ 0 0 ≤ 8) (h : Q (some (sumI (fun b => σ 9 (72 + b) - -(σ 9 (9 * b + 8))) (σ 0 0).toNat)) σ) : K (d + 1) mM_widthAll 0 [.inr 0] [] σ Q := by
  have loop : ∀ (b : Int) (v : Int), b ≤ σ 0 0 → (0 ≤ b ∧ v = sumI (fun b => σ 9 (72 + b) - -(σ 9 (9 * b + 8))) b.toNat) → K (d + 1) mM_widthAll 4 [.inr 0, .inl v, .inl b] [] σ Q := by
    refine am_up (P := fun b v => 0 ≤ b ∧ v = sumI (fun b => σ 9 (72 + b) - -(σ 9 (9 * b + 8))) b.toNat) (C := fun b v => K (d + 1) mM_widthAll 4 [.inr 0, .inl v, .inl b] [] σ Q) (fun v hp => ?_) (fun b v hb hp ih => ?_)
    · obtain ⟨-, rfl⟩ := hp
      exact bM_widthAll_4 hK ⟨by omega, by omega⟩ ⟨by omega, by omega⟩ (fun _ => bM_widthAll_20 hK h) (fun g => absurd g (by omega))
    · obtain ⟨b0, rfl⟩ := hp
      refine bM_widthAll_4 hK ⟨by omega, by omega⟩ ⟨by omega, by omega⟩ (fun g => absurd g (by omega)) (fun _ => ?_)
      refine bM_widthAll_8 hK (sM_latest hK (by omega) (bM_widthAll_12 hK (sM_earliest hK (by omega) (bM_widthAll_15 hK (ih _ ⟨by omega, ?_⟩)))))
      rw [sumI_s _ b0]
  exact bM_widthAll_0 hK (loop 0 0 n0 ⟨Int.le_refl 0, rfl⟩)
theorem wdt_e {n : Int} {W : WS} {a y : Int} (n0 : 0 ≤ n) {x z : Int → Int} (h : LGW n W a y x z) : sumI (fun b => z b - x b) n.toNat = wdt n W a y := by
  unfold wdt
  refine sumI_cong _ (fun b b0 b1 => ?_)
  have := LGW_u h b0 (by omega)
  rw [this.1, this.2]
theorem wdt_r {n : Int} {W : WS} {a y : Int} (n0 : 0 ≤ n) (n8 : n ≤ 8) {x z : Int → Int} (h : LGW n W a y x z) (hr : ∀ w, W w → ∀ a, 0 ≤ a → a < n → 0 ≤ w a ∧ w a ≤ 199) : -1592 ≤ wdt n W a y ∧ wdt n W a y ≤ 1592 := by
  rw [← wdt_e n0 h]
  have b1 : ∀ q : Int, 0 ≤ q → q < (n.toNat : Int) → -199 ≤ z q - x q ∧ z q - x q ≤ 199 := fun q q0 q1 => by
    have g1 := hr _ h.1.1 q q0 (by omega)
    have g2 := hr _ h.2.1.1 q q0 (by omega)
    omega
  have l := sumI_lb (f := fun b => z b - x b) (c := -199) n.toNat (fun q q0 q1 => (b1 q q0 q1).1)
  have u := sumI_ub (f := fun b => z b - x b) (c := 199) n.toNat (fun q q0 q1 => (b1 q q0 q1).2)
  omega
theorem wst_s {n : Int} {W : WS} {a y : Int} (y0 : 0 ≤ y) : wst n W a (y + 1).toNat = ic (Can W a y) (max (wst n W a y.toNat) (wdt n W a y)) (wst n W a y.toNat) := by
  rw [show (y + 1).toNat = y.toNat + 1 by omega, wst, show ((y.toNat : Nat) : Int) = y by omega]
theorem sM_worstOf {K : am_KT} (hK : am_C K) {d : Nat} {σ : am_S} {Q : am_Q} {a : Int} (hm : Mok σ) (ha : 0 ≤ a ∧ a < σ 0 0)
    (h : ∀ σ', mfr σ σ' → (0 ≤ wst (σ 0 0) (WM σ) a 200 ∧ wst (σ 0 0) (WM σ) a 200 ≤ 1592) → Q (some (wst (σ 0 0) (WM σ) a 200)) σ') : K (d + 4) mM_worstOf 0 [.inr 0, .inl a] [] σ Q := by
  have n0 : 0 ≤ σ 0 0 := hm.1.1.1
  have n8 : σ 0 0 ≤ 8 := hm.1.1.2
  have hway : ∀ w, WM σ w → ∀ a, 0 ≤ a → a < σ 0 0 → 0 ≤ w a ∧ w a ≤ 199 := fun w hw a a0 an => Way_r hm.1 hw a0 an
  refine bM_worstOf_0 (d := d + 3) hK (sM_setInForce hK hm (bM_worstOf_2 (d := d + 3) hK ?_))
  have loop : ∀ (y : Int) (t : Int × am_S), y ≤ 200 → (0 ≤ y ∧ mfr σ t.2 ∧ t.1 = wst (σ 0 0) (WM σ) a y.toNat ∧ 0 ≤ t.1 ∧ t.1 ≤ 1592) → K (d + 4) mM_worstOf 7 [.inr 0, .inl a, .inl (fmk σ : Int), .inl t.1, .inl y] [] t.2 Q := by
    refine am_up (P := fun y (t : Int × am_S) => 0 ≤ y ∧ mfr σ t.2 ∧ t.1 = wst (σ 0 0) (WM σ) a y.toNat ∧ 0 ≤ t.1 ∧ t.1 ≤ 1592) (C := fun y t => K (d + 4) mM_worstOf 7 [.inr 0, .inl a, .inl (fmk σ : Int), .inl t.1, .inl y] [] t.2 Q) (fun t hp => ?_) (fun y t hy hp ih => ?_)
    · obtain ⟨v, τ⟩ := t
      obtain ⟨-, c, e, r⟩ := hp
      dsimp only at c e r ⊢
      have e : v = wst (σ 0 0) (WM σ) a 200 := e
      rw [e] at r ⊢
      exact bM_worstOf_7 (d := d + 3) hK ⟨by decide, by decide⟩ (fun _ => bM_worstOf_28 (d := d + 3) hK (h τ c r)) (fun g => absurd g (by decide))
    · obtain ⟨v, τ⟩ := t
      obtain ⟨y0, c, e, r⟩ := hp
      dsimp only at c e r ih ⊢
      have e00 : τ 0 0 = σ 0 0 := c.2 0 (by decide)
      have hmτ := Mok_m c hm
      refine bM_worstOf_7 (d := d + 3) hK ⟨by omega, by omega⟩ (fun g => absurd g (by omega)) (fun _ => ?_)
      refine bM_worstOf_10 (d := d + 3) hK (sM_closeN hK hmτ.1 (Or.inr ⟨ha.1, by omega, y0, by omega⟩) (fun r2 σ2 c2 hr2 => ?_))
      rw [pbM_m c, e00] at hr2
      have c3 : mfr σ σ2 := mfr_tr c (mfr_c c2)
      have f00 : σ2 0 0 = σ 0 0 := c3.2 0 (by decide)
      rcases hr2 with ⟨rfl, hLy⟩ | ⟨rfl, hno⟩
      · have hcan : Can (WM σ) a y := (Can_WP ha.1).mpr ⟨_, hLy.1⟩
        have hwd := wdt_e n0 hLy
        have hwr := wdt_r n0 n8 hLy hway
        refine bM_worstOf_15 (d := d + 3) hK ⟨by decide, by decide⟩ (fun g => absurd g (by decide)) (fun _ => bM_worstOf_16 (d := d + 3) hK (sM_widthAll (d := d + 2) hK (by rw [f00]; exact n0) (by rw [f00]; exact n8) ?_))
        rw [f00]
        have ew : sumI (fun b => σ2 9 (72 + b) - -(σ2 9 (9 * b + 8))) (σ 0 0).toNat = wdt (σ 0 0) (WM σ) a y := hwd
        rw [ew]
        have fin : ∀ v5, K (d + 4) mM_worstOf 25 [.inr 0, .inl a, .inl (fmk σ : Int), .inl v, .inl y, .inl v5] [.inl (max v (wdt (σ 0 0) (WM σ) a y))] σ2 Q := fun v5 => bM_worstOf_25 (d := d + 3) hK (bM_worstOf_26 (d := d + 3) hK (ih (max v (wdt (σ 0 0) (WM σ) a y), σ2) ⟨by omega, c3, by show max v _ = _; rw [wst_s y0, ic_t hcan, e], by show 0 ≤ max v _; omega, by show max v _ ≤ 1592; omega⟩))
        refine bM_worstOf_18 (d := d + 3) hK ⟨by omega, by omega⟩ ⟨by omega, by omega⟩ (fun g => bM_worstOf_24 (d := d + 3) hK ?_) (fun g => bM_worstOf_22 (d := d + 3) hK ?_)
        · have h1 := fin (wdt (σ 0 0) (WM σ) a y)
          rw [Int.max_eq_left g] at h1
          exact h1
        · have h1 := fin (wdt (σ 0 0) (WM σ) a y)
          rw [Int.max_eq_right (Int.le_of_lt g)] at h1
          exact h1
      · have hnc : ¬ Can (WM σ) a y := fun q => by
          obtain ⟨w, hw⟩ := (Can_WP ha.1).mp q
          exact hno w hw
        refine bM_worstOf_15 (d := d + 3) hK ⟨by decide, by decide⟩ (fun _ => bM_worstOf_26 (d := d + 3) hK (ih (v, σ2) ⟨by omega, c3, by rw [wst_s y0, ic_f hnc]; exact e, r⟩)) (fun g => absurd rfl g)
  exact loop 0 (0, σ) (by decide) ⟨Int.le_refl 0, mfr_rf σ, rfl, Int.le_refl 0, (by decide : (0 : Int) ≤ 1592)⟩
noncomputable def aWorst (n : Int) (W : WS) (a : Int) : Int := if ¬ (0 ≤ a ∧ a < n) then -1 else ic (Exi W) (wst n W a 200) (-3)
theorem sM_worst {K : am_KT} (hK : am_C K) {d : Nat} {σ : am_S} {Q : am_Q} {a : Int} (ra : am_rng a) (hm : Mok σ) (h : ∀ σ', mfr σ σ' → Q (some (aWorst (σ 0 0) (WM σ) a)) σ') : K (d + 5) mM_worst 0 [.inr 0, .inl a] [] σ Q := by
  have n0 : 0 ≤ σ 0 0 := hm.1.1.1
  have n8 : σ 0 0 ≤ 8 := hm.1.1.2
  unfold aWorst at h
  refine bM_worst_0 (d := d + 4) hK (sM_isLetter hK ra n0 n8 (fun r hr => ?_))
  refine bM_worst_3 (d := d + 4) hK (r01_g hr) (fun g => ?_) (fun g => bM_worst_4 (d := d + 4) hK ?_)
  · have ga := r01_n hr g
    rw [if_neg (fun q => q ga)] at h
    refine bM_worst_6 (d := d + 4) hK (sM_closeNow hK hm (fun r σ1 c hr => ?_))
    have h2 := Nw_r hr
    have cm := mfr_c c
    have e00 : σ1 0 0 = σ 0 0 := c.2 0 (by decide)
    refine bM_worst_8 (d := d + 4) hK (r01_g h2) (fun g => bM_worst_13 (d := d + 4) hK (bM_worst_14 (d := d + 4) hK ?_)) (fun g => bM_worst_9 (d := d + 4) hK ?_)
    · rw [ic_f (r01_0 h2 g)] at h
      exact h σ1 cm
    · rw [ic_t (r01_n h2 g)] at h
      refine sM_worstOf hK (Mok_m cm hm) (by omega) (fun σ2 c2 _ => bM_worst_12 (d := d + 4) hK (bM_worst_14 (d := d + 4) hK ?_))
      rw [WM_m cm, e00]
      exact h σ2 (mfr_tr cm c2)
  · rw [if_pos (r01_0 hr g)] at h
    exact h σ (mfr_rf σ)
noncomputable def aBest (n : Int) (W : WS) : Int := ic (Exi W) (bst n W n.toNat).1 (-3)
theorem bst_s {n : Int} {W : WS} {a : Int} (a0 : 0 ≤ a) : bst n W (a + 1).toNat = if (bst n W a.toNat).1 = -9 ∨ wst n W a 200 < (bst n W a.toNat).2 then (a, wst n W a 200) else bst n W a.toNat := by
  rw [show (a + 1).toNat = a.toNat + 1 by omega, bst, show ((a.toNat : Nat) : Int) = a by omega]
theorem sM_best {K : am_KT} (hK : am_C K) {d : Nat} {σ : am_S} {Q : am_Q} (hm : Mok σ) (h : ∀ σ', mfr σ σ' → Q (some (aBest (σ 0 0) (WM σ))) σ') : K (d + 5) mM_best 0 [.inr 0] [] σ Q := by
  have n0 : 0 ≤ σ 0 0 := hm.1.1.1
  have n8 : σ 0 0 ≤ 8 := hm.1.1.2
  unfold aBest at h
  refine bM_best_0 (d := d + 4) hK (sM_closeNow hK hm (fun r σ1 c hr => ?_))
  have h2 := Nw_r hr
  have cm := mfr_c c
  refine bM_best_2 (d := d + 4) hK (r01_g h2) (fun g => bM_best_5 (d := d + 4) hK ?_) (fun g => bM_best_3 (d := d + 4) hK ?_)
  · rw [ic_t (r01_n h2 g)] at h
    have loop : ∀ (a : Int) (t : (Int × Int) × am_S), a ≤ σ 0 0 → (0 ≤ a ∧ mfr σ t.2 ∧ t.1 = bst (σ 0 0) (WM σ) a.toNat ∧ (-9 ≤ t.1.1 ∧ t.1.1 ≤ 8) ∧ (0 ≤ t.1.2 ∧ t.1.2 ≤ 1592)) → K (d + 5) mM_best 11 [.inr 0, .inl t.1.1, .inl t.1.2, .inl a] [] t.2 Q := by
      refine am_up (P := fun a (t : (Int × Int) × am_S) => 0 ≤ a ∧ mfr σ t.2 ∧ t.1 = bst (σ 0 0) (WM σ) a.toNat ∧ (-9 ≤ t.1.1 ∧ t.1.1 ≤ 8) ∧ (0 ≤ t.1.2 ∧ t.1.2 ≤ 1592)) (C := fun a t => K (d + 5) mM_best 11 [.inr 0, .inl t.1.1, .inl t.1.2, .inl a] [] t.2 Q) (fun t hp => ?_) (fun a t ha hp ih => ?_)
      · obtain ⟨⟨u, v⟩, τ⟩ := t
        obtain ⟨-, cτ, e, r1, r2⟩ := hp
        dsimp only at cτ e r1 r2 ⊢
        have e00 : τ 0 0 = σ 0 0 := cτ.2 0 (by decide)
        refine bM_best_11 (d := d + 4) hK ⟨by omega, by omega⟩ (by rw [e00]; exact ⟨by omega, by omega⟩) (fun _ => bM_best_31 (d := d + 4) hK ?_) (fun g => absurd g (by omega))
        have e2 : u = (bst (σ 0 0) (WM σ) (σ 0 0).toNat).1 := by rw [← e]
        rw [e2]
        exact h τ cτ
      · obtain ⟨⟨u, v⟩, τ⟩ := t
        obtain ⟨a0, cτ, e, r1, r2⟩ := hp
        dsimp only at cτ e r1 r2 ih ⊢
        have e00 : τ 0 0 = σ 0 0 := cτ.2 0 (by decide)
        refine bM_best_11 (d := d + 4) hK ⟨by omega, by omega⟩ (by rw [e00]; exact ⟨by omega, by omega⟩) (fun g => absurd g (by omega)) (fun _ => ?_)
        refine bM_best_15 (d := d + 4) hK (sM_worstOf hK (Mok_m cτ hm) (by omega) (fun σ2 c2 hw => ?_))
        rw [WM_m cτ, e00] at hw ⊢
        have c3 : mfr σ σ2 := mfr_tr cτ c2
        have es := bst_s (n := σ 0 0) (W := WM σ) a0
        rw [← e] at es
        have take : (u = -9 ∨ wst (σ 0 0) (WM σ) a 200 < v) → K (d + 5) mM_best 25 [.inr 0, .inl u, .inl v, .inl a, .inl (wst (σ 0 0) (WM σ) a 200)] [] σ2 Q := fun q => by
          rw [if_pos q] at es
          exact bM_best_25 (d := d + 4) hK (bM_best_29 (d := d + 4) hK (ih ((a, wst (σ 0 0) (WM σ) a 200), σ2) ⟨by omega, c3, es.symm, ⟨by show -9 ≤ a; omega, by show a ≤ 8; omega⟩, hw⟩))
        refine bM_best_18 (d := d + 4) hK ⟨by omega, by omega⟩ (fun g => take (Or.inl g)) (fun g => ?_)
        refine bM_best_22 (d := d + 4) hK ⟨by omega, by omega⟩ ⟨by omega, by omega⟩ (fun g2 => ?_) (fun g2 => take (Or.inr g2))
        rw [if_neg (by show ¬ (u = -9 ∨ wst (σ 0 0) (WM σ) a 200 < v); omega)] at es
        exact bM_best_29 (d := d + 4) hK (ih ((u, v), σ2) ⟨by omega, c3, es.symm, r1, r2⟩)
    exact loop 0 ((-9, 0), σ1) n0 ⟨Int.le_refl 0, cm, rfl, ⟨(by decide : (-9 : Int) ≤ -9), (by decide : (-9 : Int) ≤ 8)⟩, ⟨(by decide : (0 : Int) ≤ 0), (by decide : (0 : Int) ≤ 1592)⟩⟩
  · rw [ic_f (r01_0 h2 g)] at h
    exact h σ1 cm
